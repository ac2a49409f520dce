/**
 * Two courts made by the same calls, of which one is asked something more. What is refused, or only
 * asked, must not tell them apart: both are then asked for all that can be seen, call by call, and in
 * the end taken back through all that may be UNDONE, their IMAGES and their TEXT.
 */
final class Twin {
    interface Calls {
        void on(FifthsOfGuilt x);
    }

    interface Call {
        long on(FifthsOfGuilt x);
    }

    private final String after;
    private final FifthsOfGuilt asked;
    private final FifthsOfGuilt other;

    private Twin(String after, FifthsOfGuilt asked, FifthsOfGuilt other) {
        this.after = after;
        this.asked = asked;
        this.other = other;
    }

    /** That a call is answered as is due, and that nothing changes by it. */
    static void unchanged(String name, Calls made, Call call, long due) {
        onlyTraced(name, made, call, due, 0);
    }

    /** Likewise, but for THE TRACE, which is so much more. */
    static void onlyTraced(String name, Calls made, Call call, long due, long more) {
        FifthsOfGuilt x = new FifthsOfGuilt();
        FifthsOfGuilt y = new FifthsOfGuilt();
        made.on(x);
        made.on(y);
        Due.is(name, call.on(x), due);
        Twin twin = new Twin("after " + name + ": ", x, y);
        twin.same("trace()", x.trace(), y.trace() + more);
        twin.lookAtTheCase();
        twin.lookAtQuestions();
        twin.takeBack();
        twin.goBack(0);
        twin.goBack(1);
        twin.same("back(0) once more", x.back(0), y.back(0));
        twin.readTheText();
    }

    /** A court in which something of everything is so: the calls of most tests of refusals. */
    static void busy(FifthsOfGuilt x) {
        Due.type(x, "s9;s6;s0;f2 10 12 9 4;f3 5 0 18 9;f1 9 9 0 11;a0 1 8 10;a0 2 9 12;a1 0 0 23;t8 12;d20;");
        x.court();
        x.find(0, 1);
        x.hear(1, 1);
        x.keep(0);
        x.days(30);
        x.find(1, 1);
        x.find(0, 0);
        x.book(0, 8);
        x.book(2, 0);
        x.mark(3, 1);
        Due.type(x, "s4;d");
    }

    private void same(String call, long got, long want) {
        Due.is(after + call, got, want);
    }

    private void lookAtTheCase() {
        for (int what = 0; what <= 5; what++) {
            same("count(" + what + ")", asked.count(what), other.count(what));
        }
        for (int s = 0; s < other.count(0); s++) {
            for (int what = 0; what <= 3; what++) {
                same("suspect(" + s + ", " + what + ")", asked.suspect(s, what), other.suspect(s, what));
            }
        }
        for (int f = 0; f < other.count(1); f++) {
            for (int what = 0; what <= 2; what++) {
                same("fact(" + f + ", " + what + ")", asked.fact(f, what), other.fact(f, what));
            }
            for (int s = 0; s < other.count(0); s++) {
                same("moves(" + f + ", " + s + ")", asked.moves(f, s), other.moves(f, s));
            }
        }
        for (int a = 0; a < other.count(2); a++) {
            for (int what = 0; what <= 4; what++) {
                same("alibi(" + a + ", " + what + ")", asked.alibi(a, what), other.alibi(a, what));
            }
        }
    }

    private void lookAtQuestions() {
        lookAtNow();
        for (int what = 0; what <= 1; what++) {
            same("clash(" + what + ")", asked.clash(what), other.clash(what));
            same("rests(" + what + ")", asked.rests(what), other.rests(what));
            same("proof(0, 2, 3, " + what + ")", asked.proof(0, 2, 3, what), other.proof(0, 2, 3, what));
            same("cleared(0, 1, 3, " + what + ")", asked.cleared(0, 1, 3, what), other.cleared(0, 1, 3, what));
        }
        for (int what = 0; what <= 2; what++) {
            same("books(" + what + ")", asked.books(what), other.books(what));
        }
        same("gains(0)", asked.gains(0), other.gains(0));
        same("forged(0, 1, 3)", asked.forged(0, 1, 3), other.forged(0, 1, 3));
        same("cellsFor(60)", asked.cellsFor(60), other.cellsFor(60));
        same("wronged(-1)", asked.wronged(-1), other.wronged(-1));
        same("innocent(0)", asked.innocent(0), other.innocent(0));
    }

    private void lookAtNow() {
        for (int what = 0; what <= 4; what++) {
            same("now(" + what + ")", asked.now(what), other.now(what));
        }
    }

    private void takeBack() {
        for (int known = other.count(4); known >= 0; known--) {
            same("undo()", asked.undo(), other.undo());
            lookAtNow();
        }
    }

    private void goBack(int image) {
        same("back(" + image + ")", asked.back(image), other.back(image));
        lookAtNow();
        takeBack();
    }

    private void readTheText() {
        same("court()", asked.court(), other.court());
        same("clear()", asked.clear(), other.clear());
        same("count(0) of that text", asked.count(0), other.count(0));
        same("now(3) of that text", asked.now(3), other.now(3));
        // What was told ahead of it may stand in rows that are used again.
        same("type(';')", asked.type(';'), other.type(';'));
        same("court() of ;", asked.court(), other.court());
    }
}
