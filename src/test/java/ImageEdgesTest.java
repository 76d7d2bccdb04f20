import java.util.List;
import java.util.function.Consumer;

/** Promises 22 and 23 at their edges: a test for each sentence that names one. */
public final class ImageEdgesTest {
    private static final Check CHECK = new Check("ImageEdgesTest");
    private static final Edges NEW = new Edges(CHECK, "new", States::nothing);
    private static final Edges SOME = new Edges(CHECK, "some", States::some);
    private static final Edges FULL = new Edges(CHECK, "full", States::full);

    public static void main(String[] args) {
        imageOfAnotherNumber();
        imageOfNothing();
        imageOfAllThatIsTold();
        imageIsWrittenAnew();
        imageAsItIsNow();
        againOfNoImage();
        againOfAnotherNumber();
        againOfAllThatIsTold();
        againOfAnotherHistory();
        otherImagesStay();
        ownImageStays();
        againAfterFull();
        againOfWhatIsNow();
        CHECK.finish();
    }

    /** What is told after both rows of calls is alike, as far as any call can tell. */
    private static void dueAlike(String name, Consumer<ChipBoards> one, Consumer<ChipBoards> other) {
        List<long[]> first = Probes.answers(() -> told(one));
        List<long[]> second = Probes.answers(() -> told(other));
        CHECK.due(name + ": answers unlike", Probes.differences(first, second), 0);
    }

    private static ChipBoards told(Consumer<ChipBoards> calls) {
        ChipBoards x = new ChipBoards();
        calls.accept(x);
        return x;
    }

    /** Another value for all that States.some tells, and more of each. */
    private static void change(ChipBoards x) {
        x.press(0, 0);
        x.bin(1, true);
        x.fill(0, 7);
        x.fill(1, 8);
        x.fill(2, 900);
        x.lot(77);
        x.rule(0, 30);
        x.rule(1, 100);
        x.rule(2, 4000);
        x.rule(3, 0);
        x.lay(2, 1, 500);
        x.plate(111);
        x.link(0, 2, 0);
        x.link(5, 0, 6);
        x.state(4, false, true);
        x.state(0, true, true);
        x.sheet(1, 1, 500);
    }

    /** Promise 22: "Image k (0 .. 2) ..; false for another k". */
    private static void imageOfAnotherNumber() {
        NEW.refusedOutside(0, 0, 2, "image", 0);
        SOME.refusedOutside(0, 0, 2, "image", 0);
        FULL.refusedOutside(0, 0, 2, "image", 0);
        for (int k = 0; k < 3; k++) {
            NEW.taken(1, "image", k);
            SOME.taken(1, "image", k);
            FULL.taken(1, "image", k);
        }
    }

    /** Promise 22: what is told may be nothing; it is an image all the same. */
    private static void imageOfNothing() {
        for (int k = 0; k < 3; k++) {
            int image = k;
            Edges told = new Edges(CHECK, "told upon image " + k + " of nothing", x -> {
                x.image(image);
                States.full(x);
            });
            told.taken(1, "again", k);
            ChipBoards x = told.fresh();
            x.again(k);
            for (int what = 0; what < 8; what++) {
                CHECK.due("nothing again: count(" + what + ")", x.count(what), 0);
            }
        }
    }

    /** Promise 22: an image "is all that is told"; by it, what is told stays as it is. */
    private static void imageOfAllThatIsTold() {
        List<long[]> before = Probes.answersNow(SOME::fresh);
        for (int k = 0; k < 3; k++) {
            int image = k;
            List<long[]> behind = Probes.answersNow(() -> {
                ChipBoards x = SOME.fresh();
                x.image(image);
                return x;
            });
            CHECK.due("behind image(" + k + "): answers unlike", Probes.differences(before, behind), 0);
        }
    }

    /** Promise 22: image k is "as it is now", not as it was when k was an image before. */
    private static void imageIsWrittenAnew() {
        dueAlike("image 1 once more", x -> {
            States.some(x);
            x.image(1);
            change(x);
            x.image(1);
            x.again(1);
        }, x -> {
            States.some(x);
            change(x);
            x.image(1);
        });
        dueAlike("less than the image had", x -> {
            x.image(0);
            States.full(x);
            x.image(2);
            x.again(0);
            x.image(2);
            x.again(2);
        }, x -> {
            x.image(0);
            x.image(2);
        });
    }

    /** Promise 22: what is told later is not in the image. */
    private static void imageAsItIsNow() {
        Edges later = new Edges(CHECK, "changed since image 0", x -> {
            States.some(x);
            x.image(0);
            change(x);
        });
        later.taken(1, "again", 0);
        ChipBoards x = later.fresh();
        x.again(0);
        CHECK.due("BINS", x.count(0), 2);
        CHECK.due("MAT 0 was not pressed", x.mat(0, 7), -1);
        CHECK.due("GRAMS", x.count(10), 4900);
    }

    /** Promise 23: "false if there is none such": no image yet. */
    private static void againOfNoImage() {
        for (int k = 0; k < 3; k++) {
            NEW.refused("again", k);
            FULL.refused("again", k);
        }
        SOME.refused("again", 0);
        SOME.taken(1, "again", 1);
        SOME.refused("again", 2);
        Edges last = new Edges(CHECK, "image 2 alone", x -> x.image(2));
        last.refused("again", 0);
        last.refused("again", 1);
        last.told(1, "again", 2);
        Edges first = new Edges(CHECK, "image 0 alone", x -> x.image(0));
        first.told(1, "again", 0);
        first.refused("again", 1);
        first.refused("again", 2);
    }

    /** Promise 23: "false if there is none such": no such k, though all images are there. */
    private static void againOfAnotherNumber() {
        Edges all = new Edges(CHECK, "three images", x -> {
            x.image(0);
            States.some(x);
            x.image(2);
            change(x);
        });
        all.refusedOutside(0, 0, 2, "again", 0);
        for (int k = 0; k < 3; k++) {
            all.taken(1, "again", k);
        }
    }

    /** Promise 23: "All that is as image k has it". */
    private static void againOfAllThatIsTold() {
        for (int k = 0; k < 3; k++) {
            int image = k;
            dueAlike("again(" + k + ") behind changes", x -> {
                States.some(x);
                x.image(image);
                change(x);
                x.again(image);
            }, x -> {
                States.some(x);
                x.image(image);
            });
        }
    }

    /** Promise 23: "All that", though more or fewer, with other numbers, were told in between. */
    private static void againOfAnotherHistory() {
        dueHistory("full in between", States::some, States::full);
        dueHistory("some in between", States::full, States::some);
        dueHistory("one less of each in between", States::full, States::oneShort);
    }

    private static void dueHistory(String name, Consumer<ChipBoards> first, Consumer<ChipBoards> between) {
        List<long[]> alone = Probes.answersNow(() -> told(first));
        List<long[]> again = Probes.answersNow(() -> {
            ChipBoards x = new ChipBoards();
            x.image(0);
            first.accept(x);
            x.image(2);
            x.again(0);
            between.accept(x);
            x.again(2);
            return x;
        });
        CHECK.due(name + ": answers unlike", Probes.differences(alone, again), 0);
    }

    /** Promise 23: "(other images stay)". */
    private static void otherImagesStay() {
        dueAlike("images 0, 1 and 2 behind again(1)", x -> {
            x.image(0);
            States.some(x);
            change(x);
            x.image(2);
            x.again(1);
            x.again(2);
            x.again(0);
            x.again(2);
        }, x -> {
            x.image(0);
            States.some(x);
            change(x);
            x.image(2);
        });
    }

    /** Promise 23: image k itself stays too, whatever is told behind again(k). */
    private static void ownImageStays() {
        dueAlike("again(0) twice", x -> {
            States.some(x);
            x.image(0);
            x.again(0);
            change(x);
            x.again(0);
        }, x -> {
            States.some(x);
            x.image(0);
        });
    }

    /** Promise 23 between nothing and as much of all as there may be. */
    private static void againAfterFull() {
        dueAlike("full, as it was", x -> {
            x.image(1);
            States.full(x);
            x.image(0);
            x.again(1);
            x.again(0);
        }, x -> {
            x.image(1);
            States.full(x);
            x.image(0);
        });
        Edges again = new Edges(CHECK, "full, then nothing again", x -> {
            x.image(1);
            States.full(x);
            x.again(1);
        });
        again.taken(0, "bin", 4, false);
        again.taken(0, "lot", 4);
        again.taken(0, "plate", 104);
        again.taken(0, "sheet", 4, 4, 4);
        again.refused("lay", 0, 0, 10);
        again.refused("mat", 0, 0);
        again.refused("recall", 0);
        again.refused("time", 0, 0);
        again.refused("cuts", 9, 9, 0);
        again.refused("badRow");
    }

    /** Promise 23 where nothing has changed since the image. */
    private static void againOfWhatIsNow() {
        Edges now = new Edges(CHECK, "just become image 2", x -> {
            States.some(x);
            x.image(2);
        });
        now.told(1, "again", 2);
        now.told(1, "image", 2);
    }
}
