import java.util.ArrayList;
import java.util.List;

/**
 * What an object tells of its whole state: two objects of one state answer alike. It is asked for once
 * at the end, since the last of the calls change the object.
 */
final class Answers {
    private static final int MOMENTS = 24;

    private final Object some;
    private final List<String> told = new ArrayList<>();

    private Answers(Object some) {
        this.some = some;
    }

    /** Each call with its answer. */
    static List<String> of(Object some) {
        Answers answers = new Answers(some);
        answers.counts();
        answers.who();
        answers.figures();
        answers.pass();
        answers.show();
        answers.foreign();
        answers.whatChanges();
        answers.marks();
        return answers.told;
    }

    private int ask(String name, long... n) {
        int answer = Calls.ask(some, name, n);
        StringBuilder text = new StringBuilder(name);
        for (long number : n) {
            text.append(' ').append(number);
        }
        told.add(text.append(" = ").append(answer).toString());
        return answer;
    }

    private void counts() {
        for (int what = 0; what <= 6; what++) {
            ask("count", what);
        }
    }

    private void who() {
        ask("who", 0);
        ask("who", 1);
    }

    private void figures() {
        int many = ask("count", 1);
        for (int figure = 0; figure < many; figure++) {
            points(figure);
            ask("point", figure, -1, 1);
            ask("spread", figure);
        }
    }

    private void points(int figure) {
        int points = ask("point", figure, -1, 0);
        for (int point = 0; point < points; point++) {
            for (int what = 0; what < 4; what++) {
                ask("point", figure, point, what);
            }
        }
    }

    private void pass() {
        int size = 0;
        while (size < 10 && ask("goes", size) >= 0) {
            size++;
        }
        for (int a = 0; a < size; a++) {
            ask("enters", a);
            for (int b = a + 1; b < size; b++) {
                ask("clash", a, b);
            }
        }
        ask("clean");
    }

    private void show() {
        int flyers = ask("count", 0);
        int scenes = ask("count", 2);
        for (int flyer = 0; flyer < flyers; flyer++) {
            ask("left", flyer);
            ask("lands", flyer);
            ask("stands", flyer, 0);
            ask("stands", flyer, 1);
            ask("stands", flyer, scenes - 1);
        }
        ask("fails", 0, 0, 1);
        ask("fails", 0, scenes - 1, 1);
        ask("last");
        ask("unclean");
        int length = ask("length");
        for (int i = 0; i <= MOMENTS; i++) {
            ask("colour", (long) length * i / MOMENTS);
        }
    }

    private void foreign() {
        ask("first");
        who();
    }

    /** The delays, what is on the tape, where the pads are, the numbers that stand. */
    private void whatChanges() {
        for (int i = 0; i < 10; i++) {
            ask("delay", i, 0);
        }
        int figures = ask("count", 1);
        for (int figure = 0; figure < figures; figure++) {
            ask("pass", -1, figure, 1);
        }
        int read = ask("figure");
        if (read >= 0) {
            points(read);
        }
        ask("pass", -1, -1, 1);
        ask("enters", 0);
        ask("zone", 0, 0, 200);
        ask("enters", 0);
        ask("gap", 0);
        ask("margin", 0);
        ask("last");
    }

    /** Where the marks are is seen by a wide gap and wide zones, whose they are by marks ahead. */
    private void marks() {
        ask("zone", 0, 0, 0);
        ask("gap", 100);
        ask("first");
        who();
        ask("gap", 0);
        for (int corner = 0; corner < 4; corner++) {
            ask("zone", corner % 2 * 300 - 150, corner / 2 * 300 - 150, 150);
            ask("first");
            who();
        }
        for (int flyer = 0; flyer < 10; flyer++) {
            ask("mark", flyer, 0, 0, 0, 0);
        }
        ask("wipe");
    }
}
