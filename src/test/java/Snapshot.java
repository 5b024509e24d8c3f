import java.util.ArrayList;
import java.util.List;

/**
 * What later calls show of a register: its answers to a row of calls, the last of which change it.
 * Two registers in the same state answer alike; a register is used up by being looked at.
 */
final class Snapshot {
    private final FoundRegister register;
    private final List<String> answers = new ArrayList<>();
    private int calls;
    private int today;
    private int finds;

    private Snapshot(FoundRegister register, int callsBefore) {
        this.register = register;
        this.calls = callsBefore;
    }

    static List<String> of(FoundRegister register, int callsBefore) {
        Snapshot made = new Snapshot(register, callsBefore);
        made.look();
        if (made.calls > Calls.MOST) {
            throw new AssertionError("a snapshot after " + callsBefore + " calls goes too far");
        }
        return made.answers;
    }

    private Object ask(String name, int... p) {
        calls++;
        Object answer = Calls.answer(register, name, p);
        answers.add(name + java.util.Arrays.toString(p) + " = " + answer);
        return answer;
    }

    private void look() {
        today = (Integer) ask("today");
        while (ask("counts", finds, today) instanceof Boolean) {
            finds++;
        }
        int wishes = 0;
        while (ask("differing", wishes, today) instanceof Integer) {
            wishes++;
        }
        lookAtDays();
        for (int find = 0; find < finds; find++) {
            lookAtFind(find);
        }
        lookByChanges();
    }

    private void lookAtDays() {
        for (int day : new int[] {0, today, 9999}) {
            ask("things", day);
        }
        for (int attribute = 0; attribute < 2; attribute++) {
            ask("disputed", attribute, today);
            ask("changed", attribute, 0, today);
        }
    }

    private void lookAtFind(int find) {
        ask("thingOf", find, today);
        ask("value", find, 0, today);
        if (finds <= 12 || find % 3 == 0) {
            ask("value", find, 1, today);
            ask("impact", find, today);
        }
        if (finds <= 12) {
            ask("counts", find, 0);
            ask("failsWith", finds - 1 - find, find, today);
        }
    }

    private void lookByChanges() {
        for (int other = 1; other < finds; other++) {
            for (int one = finds <= 12 ? 0 : other - 1; one < other; one++) {
                ask("tell", one, other, 0);
            }
        }
        for (int source = 0; source < 4; source++) {
            ask("setTerm", source, 30);
        }
        for (int source = 3; source >= 0; source--) {
            ask("putFirst", source);
        }
        ask("find", 0, 0, 0, 0, -1, -1);
        ask("link", 0, 1, 0);
        ask("wish", 0, 1, 0, 0);
        ask("pass", 1);
        for (int find = 0; find < finds && finds <= 12; find++) {
            ask("strike", find);
        }
    }
}
