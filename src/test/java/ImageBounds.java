/** Promises 21 and 22. */
final class ImageBounds {
    private static final int BAD = Due.BAD, STATE = Due.STATE, NONE = Due.NONE;
    private static final int MIN = Integer.MIN_VALUE, MAX = Integer.MAX_VALUE;

    private ImageBounds() {
    }

    private static void due(String what, long got, long want) {
        Due.due(what, got, want);
    }

    private static void of(int promise, String words, String remark, Runnable test) {
        Sentences.of("Promise " + promise, words, remark, test);
    }

    private static void of(int promise, String words, Runnable test) {
        of(promise, words, "", test);
    }

    static void all() {
        keep();
        keepReplaces();
        back();
        marksComeBack();
        backThatIsRefused();
    }

    /** A subject behind keep, something else that changes all there is, and back. */
    private static Machine changedAndBack(Picture.Subject subject, int image) {
        Machine m = subject.made();
        due("keep", m.keep(image), m.told(0));
        int bytes = m.told(11);
        changeAll(m);
        Due.text(m, Subjects.TEXT.substring(0, bytes));
        due("back", m.back(image), subject.made().told(0));
        return m;
    }

    /** Another program, in the middle of a run with frames, a trace, finalizers and resumptions. */
    private static void changeAll(Machine m) {
        m.undefine(3);
        Due.defined(m, 0, "^Dx");
        Due.defined(m, 1, "^E!x");
        Due.loaded(m, "{;!8 ;%^A1 !9 ^F3 A y ;@1 @2}");
        m.run(200);
    }

    private static void keep() {
        String keeps = "Keeps the main expression, the procedures and the run in an image, replacing what it kept before.";
        of(21, keeps, "in every state, and changes nothing else", () -> {
            for (Picture.Subject each : Subjects.all()) {
                Picture.Subject twice = new Picture.Subject("is kept and " + each.name, () -> {
                    Machine m = each.made();
                    m.keep(0);
                    return m;
                });
                twice.unchangedBy("keep(0)", m -> m.keep(0), each.made().told(0));
                Machine m = each.made();
                m.keep(1);
                Machine n = each.made();
                Due.same("the run of a machine that " + each.name, Picture.numbers(m) + Picture.frames(m),
                        Picture.numbers(n) + Picture.frames(n));
            }
        });
        of(21, keeps, "what is kept does not go on with the run", () -> {
            for (Picture.Subject each : Subjects.all()) {
                for (int image = 0; image <= 1; image++) {
                    Machine m = changedAndBack(each, image);
                    Machine n = each.made();
                    Due.same("the run of a machine that " + each.name, Picture.numbers(m) + Picture.frames(m),
                            Picture.numbers(n) + Picture.frames(n));
                    due("procedure 3", m.may(3, 0, 0), n.may(3, 0, 0));
                    due("the next steps", m.run(200), n.run(200));
                    Due.same("the next steps", Picture.numbers(m), Picture.numbers(n));
                    Due.same("the main expression", Picture.listing(changedAndBack(each, image)), Picture.listing(n));
                    for (int p = each.made().told(0) == 0 ? 0 : -1; p < 4; p++) {
                        Machine changed = changedAndBack(each, image);
                        if (n.may(p, 0, 0) != STATE) {
                            Due.same("what may be left", Picture.leaves(changed, p), Picture.leaves(each.made(), p));
                        }
                    }
                }
            }
        });
        of(21, "- `i`: the image, 0 or 1", () -> {
            Machine m = Due.loaded("!1");
            due("keep(0)", m.keep(0), 1);
            Due.ran(m);
            due("keep(1)", m.keep(1), 2);
            due("back(0)", m.back(0), 1);
            due("back(1)", m.back(1), 2);
        });
        of(21, "Returns the state of the run;", () -> {
            int[] states = {0, 0, 1, 1, 2, 3, 4, 5};
            for (int i = 0; i < states.length; i++) {
                due("keep of a machine that " + Subjects.all()[i].name, Subjects.all()[i].made().keep(i % 2), states[i]);
            }
        });
        of(21, "BAD if there is no such image.", () -> {
            for (int bad : new int[] {-1, 2, MIN, MAX}) {
                for (Picture.Subject each : Subjects.all()) {
                    each.unchangedBy("keep(" + bad + ")", m -> m.keep(bad), BAD);
                }
            }
        });
    }

    private static void keepReplaces() {
        String keeps = "Keeps the main expression, the procedures and the run in an image, replacing what it kept before.";
        of(21, keeps, "replacing", () -> {
            Machine m = Due.loaded(";!1 ;!2 !3");
            for (int n = 0; n < 3; n++) {
                m.run(4);
                due("keep", m.keep(0), 1);
            }
            due("steps that were kept", m.told(1), 12);
            m.restart();
            due("back", m.back(0), 1);
            due("steps", m.told(1), 12);
            Due.trace(m, "that was kept last", 1, 2);
            m.restart();
            due("keep of a shorter one", m.keep(0), 1);
            Due.ran(m);
            due("back", m.back(0), 1);
            due("steps", m.told(1), 0);
            Due.trace(m, "that was kept last");
            due("frames", m.frame(0, 0), BAD);
        });
        of(21, keeps, "replacing by another program", () -> {
            Machine m = Due.ran("!1");
            m.keep(1);
            Due.loaded(Due.defined(m, 2, "^Ax"), "&2 7");
            m.keep(1);
            m.undefine(2);
            Due.loaded(m, "5");
            due("back", m.back(1), 1);
            Due.listing(m, "&27");
            due("procedures", m.told(12), 1);
            due("run", m.run(200), 3);
        });
        of(21, keeps, "replacing by what has loaded nothing", () -> {
            Machine m = new Machine();
            due("keep(1)", m.keep(1), 0);
            Due.ran(Due.loaded(Due.defined(m, 0, "x"), "{;!1 ;%^A2 3 4 A x @x}"));
            due("keep(0)", m.keep(0), 2);
            due("back(1)", m.back(1), 0);
            due("keep(0)", m.keep(0), 0);
            Due.ran(Due.loaded(m, "!5"));
            due("back(0)", m.back(0), 0);
            m.wipe();
            Machine n = new Machine();
            Due.same("the run", Picture.numbers(m) + Picture.frames(m), Picture.numbers(n) + Picture.frames(n));
            due("restart", m.restart(), STATE);
        });
        of(21, keeps, "the images have nothing to do with one another", () -> {
            Machine m = Due.loaded("!1");
            m.keep(0);
            m.run(1);
            m.keep(1);
            m.run(1);
            due("back(0)", m.back(0), 1);
            due("steps", m.told(1), 0);
            due("back(1)", m.back(1), 1);
            due("steps", m.told(1), 1);
            m.keep(0);
            m.restart();
            m.keep(1);
            due("back(0)", m.back(0), 1);
            due("steps", m.told(1), 1);
            due("back(1)", m.back(1), 1);
            due("steps", m.told(1), 0);
        });
    }

    private static void back() {
        String restores = "Restores what an image keeps;";
        of(22, restores, "but not the text", () -> {
            for (Picture.Subject each : Subjects.all()) {
                Machine m = each.made();
                m.keep(0);
                Due.text(m, "!4");
                due("back", m.back(0), each.made().told(0));
                due("bytes", m.told(11), 2);
                due("load", m.load(), 2);
                Due.listing(m, "!4");
                m.wipe();
                m.back(0);
                due("bytes", m.told(11), 0);
                Due.text(m, "!".repeat(119) + "1");
                m.back(0);
                due("bytes", m.told(11), 120);
                due("load", m.load(), 120);
            }
        });
        of(22, restores, "nothing loaded", () -> {
            Machine m = Due.defined(new Machine(), 2, "^Cx");
            due("keep", m.keep(1), 0);
            changeAll(m);
            due("back", m.back(1), 0);
            Due.text(m, "^Cx");
            Machine n = Due.defined(new Machine(), 2, "^Cx");
            Due.same("the run", Picture.numbers(m) + Picture.frames(m), Picture.numbers(n) + Picture.frames(n));
            due("restart", m.restart(), STATE);
            due("run", m.run(1), STATE);
            due("answer", m.answer(1), STATE);
            due("drop", m.drop(1), STATE);
            due("listing", m.listing(0), STATE);
            due("may", m.may(-1, 0, 0), STATE);
            due("procedures", m.told(12), 1);
            due("keep", m.keep(0), 0);
        });
        of(22, "the image stays.", () -> {
            Machine m = Due.loaded("{%^A1 !2 A x ;@3 @4}");
            m.run(9);
            m.keep(0);
            String kept = Picture.numbers(m) + Picture.frames(m);
            for (int n = 0; n < 5; n++) {
                m.run(1 + 7 * n);
                due("back", m.back(0), 1);
                Due.same("back " + n, Picture.numbers(m) + Picture.frames(m), kept);
            }
            Due.ends(Due.ran(m), "the run that was kept", 2, 4, 2);
        });
        of(22, "- `i`: the image", () -> {
            Machine m = new Machine();
            due("keep(0)", m.keep(0), 0);
            due("back(0)", m.back(0), 0);
            due("back(1)", m.back(1), STATE);
            m = new Machine();
            due("keep(1)", m.keep(1), 0);
            due("back(1)", m.back(1), 0);
            due("back(0)", m.back(0), STATE);
        });
        of(22, "Returns the state of the run then;", () -> {
            int[] states = {0, 0, 1, 1, 2, 3, 4, 5};
            for (int i = 0; i < states.length; i++) {
                Machine m = changedAndBack(Subjects.all()[i], i % 2);
                due("state", m.told(0), states[i]);
                due("back again", m.back(i % 2), states[i]);
            }
        });
    }

    private static void marksComeBack() {
        of(22, "Restores what an image keeps;", "uses of resumptions and executed finalizers", () -> {
            Machine m = Due.loaded("{%^A1 !2 A x ;@3 @4}");
            Due.until(m, 1, 9, 12, 4, 14);
            m.keep(0);
            Due.ran(m);
            due("used more than once", m.told(8), 1);
            due("executed", m.told(9), 1);
            due("back", m.back(0), 1);
            due("uses", m.frame(3, 1), 1);
            due("executed", m.frame(0, 1), 0);
            due("used more than once", m.told(8), 0);
            m.run(1);
            m.keep(1);
            m.back(0);
            due("not executed in image 0", m.frame(0, 1), 0);
            m.back(1);
            due("executed in image 1", m.told(9), 1);
            Due.ends(Due.ran(m), "from image 1", 2, 4, 2);
            m.back(0);
            Due.ends(Due.ran(m), "from image 0", 2, 4, 2);
        });
        of(22, "Restores what an image keeps;", "marks of the run that was left do not come to the one that is restored", () -> {
            Machine m = Due.loaded("{%^A1 !2 A x x}");
            m.run(3);
            m.keep(0);
            Due.ran(m);
            due("executed", m.told(9), 1);
            m.back(0);
            due("not executed", m.frame(1, 1), 0);
            Due.ends(Due.ran(m), "once more", 2, 1, 2);
            m.restart();
            m.run(3);
            due("not executed anew", m.frame(1, 1), 0);
        });
    }

    private static void backThatIsRefused() {
        of(22, "BAD if there is no such image;", () -> {
            for (int bad : new int[] {-1, 2, MIN, MAX}) {
                for (Picture.Subject each : Subjects.all()) {
                    each.unchangedBy("back(" + bad + ")", m -> m.back(bad), BAD);
                }
            }
        });
        of(22, "STATE if it keeps nothing.", () -> {
            for (Picture.Subject each : Subjects.all()) {
                each.unchangedBy("back(0)", m -> m.back(0), STATE);
            }
            Subjects.NEW.unchangedBy("back(1)", m -> m.back(1), STATE);
            Machine m = Due.ran("!^A1");
            due("back(0)", m.back(0), STATE);
            due("back(1)", m.back(1), STATE);
            due("keep(1)", m.keep(1), 3);
            due("back(0)", m.back(0), STATE);
            due("back(1)", m.back(1), 3);
            due("no handler", m.handler(0), NONE);
        });
    }
}
