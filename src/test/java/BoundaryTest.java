import java.lang.reflect.InvocationTargetException;
import java.lang.reflect.Method;
import java.util.ArrayList;
import java.util.HashMap;
import java.util.List;
import java.util.Map;

/**
 * Each sentence of the document that names a boundary case has a run of its own here, told as a text: a call a
 * line, "3*" ahead of it for three times, behind it "= 5" for the answer that is due, or "! I", "! A", "! S" for an
 * IndexOutOfBoundsException, IllegalArgumentException or IllegalStateException. A call without either is one that
 * must not throw. After each refused call all that can be asked, and what comes of it, is held against a house
 * that was never asked for the refused calls. No object is used for more than 512 calls.
 */
public final class BoundaryTest {

    private static final int MOST_CALLS = 512;
    private static final int LOW = Integer.MIN_VALUE;
    private static final int HIGH = Integer.MAX_VALUE;
    private static final Map<String, Method> FACE = face();
    private static final Map<String, List<Step>> QUESTIONS = new HashMap<>();

    private static int wrong = 0;
    private static int checks = 0;

    private record Step(String text, Method method, Object[] args, String due) {
        boolean isRefused() {
            return due != null && "IAS".contains(due);
        }
    }

    // ---- how runs are read and played

    private static Map<String, Method> face() {
        Map<String, Method> face = new HashMap<>();
        for (Method method : Platterhouse.class.getDeclaredMethods()) {
            if (java.lang.reflect.Modifier.isPublic(method.getModifiers())) {
                face.put(method.getName(), method);
            }
        }
        return face;
    }

    private static List<Step> read(String text) {
        List<Step> steps = new ArrayList<>();
        for (String line : text.split("\n")) {
            String call = line.replaceAll("#.*", "").strip();
            if (call.isEmpty()) {
                continue;
            }
            int times = 1;
            if (call.contains("*")) {
                times = Integer.parseInt(call.substring(0, call.indexOf('*')));
                call = call.substring(call.indexOf('*') + 1);
            }
            for (int i = 0; i < times; i++) {
                steps.add(step(call));
            }
        }
        return steps;
    }

    private static Step step(String call) {
        String[] words = call.split("\\s+");
        Method method = FACE.get(words[0]);
        if (method == null) {
            throw new IllegalArgumentException("no such call: " + call);
        }
        Class<?>[] types = method.getParameterTypes();
        boolean isTold = words.length == types.length + 3;
        if (words.length != types.length + 1 && !isTold) {
            throw new IllegalArgumentException("not a call: " + call);
        }
        Object[] args = new Object[types.length];
        for (int i = 0; i < types.length; i++) {
            if (types[i] == boolean.class) {
                args[i] = words[i + 1].equals("true");
            } else {
                args[i] = Integer.valueOf(words[i + 1]);
            }
        }
        return new Step(call, method, args, isTold ? words[words.length - 1] : null);
    }

    /** The answer as a text; what the library throws below the class is none, even if its name is the due one. */
    private static String answer(Platterhouse x, Step step) {
        try {
            return String.valueOf(step.method.invoke(x, step.args));
        } catch (InvocationTargetException e) {
            Throwable thrown = e.getCause();
            StackTraceElement[] trace = thrown.getStackTrace();
            if (trace.length > 0 && trace[0].getClassName().startsWith("Platterhouse")) {
                if (thrown.getClass() == IndexOutOfBoundsException.class) {
                    return "I";
                }
                if (thrown.getClass() == IllegalArgumentException.class) {
                    return "A";
                }
                if (thrown.getClass() == IllegalStateException.class) {
                    return "S";
                }
            }
            return "threw " + thrown;
        } catch (IllegalAccessException e) {
            return "no access";
        }
    }

    private static Platterhouse play(List<Step> steps) {
        Platterhouse x = new Platterhouse();
        for (Step step : steps) {
            answer(x, step);
        }
        return x;
    }

    private static void bad(String sentence, String what) {
        wrong++;
        System.out.println(sentence + ": " + what);
    }

    private static void run(String sentence, String text) {
        List<Step> steps = read(text);
        if (steps.size() > MOST_CALLS) {
            bad(sentence, "the run has " + steps.size() + " calls");
        }
        Platterhouse x = new Platterhouse();
        List<Step> done = new ArrayList<>();
        for (int i = 0; i < steps.size(); i++) {
            Step step = steps.get(i);
            String got = answer(x, step);
            if (step.due != null) {
                checks++;
            }
            boolean isDue = step.due != null ? got.equals(step.due) : got.matches("-?[0-9]+|true|false|null");
            if (!isDue) {
                bad(sentence, "call " + i + ", " + step.text + ", answered " + got);
            }
            if (step.isRefused()) {
                needSame(sentence, done, step);
            } else {
                done.add(step);
            }
        }
    }

    // ---- whether a call changed anything

    private static Step ask(String name, Object... args) {
        StringBuilder text = new StringBuilder(name);
        for (Object arg : args) {
            text.append(' ').append(arg);
        }
        return new Step(text.toString(), FACE.get(name), args, null);
    }

    private static List<Step> questions(int shows, int tickets) {
        return QUESTIONS.computeIfAbsent(shows + "/" + tickets, key -> {
            List<Step> all = new ArrayList<>();
            for (int what = 0; what < 5; what++) {
                all.add(ask("all", what));
            }
            for (int hall = 0; hall < 4; hall++) {
                for (int what = 0; what < 4; what++) {
                    all.add(ask("ofHall", hall, what));
                }
            }
            for (int film = 0; film < 8; film++) {
                for (int week : new int[] {0, 1, 9}) {
                    all.add(ask("takings", film, week));
                    all.add(ask("share", film, week));
                    all.add(ask("mustStay", film, week));
                }
                for (int hall = 0; hall < 4; hall++) {
                    for (int start : new int[] {1, 500, 1200, 1300, 100000}) {
                        all.add(ask("fits", film, hall, start));
                    }
                }
            }
            for (int show = 0; show < shows; show++) {
                for (int what = 0; what < 8; what++) {
                    all.add(ask("ofShow", show, what));
                }
                for (int place = 0; place < (shows > 5 ? 4 : 48); place++) {
                    all.add(ask("seat", show, place / 8, place % 8));
                }
            }
            for (int ticket = 0; ticket < tickets; ticket += tickets > 100 ? 13 : 1) {
                all.add(ask("ofTicket", ticket, 4));
                all.add(ask("ofTicket", ticket, 5));
            }
            return all;
        });
    }

    /** What is not asked for: the line's people, the holds' ends, how many there were, shows by what comes of them. */
    private static List<List<Step>> futures(int shows, int tickets, int holds) {
        List<List<Step>> all = new ArrayList<>();
        List<Step> back = new ArrayList<>();
        for (int ticket = 0; ticket < tickets && ticket < 60; ticket++) {
            back.add(ask("giveBack", ticket));
        }
        List<Step> go = new ArrayList<>();
        for (int hold = 0; hold < holds && hold < 100; hold++) {
            go.add(ask("letGo", hold));
        }
        for (int ticket = tickets; ticket < tickets + 42; ticket++) {
            back.add(ask("ofTicket", ticket, 3));
            go.add(ask("ofTicket", ticket, 3));
        }
        List<Step> later = new ArrayList<>();
        for (int minutes : new int[] {1, 9, 20, 70, 1000, 100, 5000}) {
            later.add(ask("pass", minutes));
            later.add(ask("all", 2));
            later.add(ask("all", 3));
            for (int show = 0; show < shows && show < 6; show++) {
                later.add(ask("ofShow", show, 3));
                later.add(ask("ofShow", show, 6));
            }
            for (int hall = 0; hall < 4; hall++) {
                later.add(ask("ofHall", hall, 1));
            }
        }
        List<Step> more = new ArrayList<>();
        more.add(ask("spread", 3));
        for (int i = 0; i < 31; i++) {
            more.add(ask("key", 0, 0, 0, 1));
        }
        for (int i = 0; i < 9; i++) {
            more.add(ask("hall", 1, 1));
            more.add(ask("film", 30, 0, 1));
        }
        for (int show = 0; show < shows && show < 30; show++) {
            more.add(ask("hold", show, 0, 0, 5));
            more.add(ask("cancel", show));
        }
        for (int i = 0; i < 5; i++) {
            more.add(ask("show", 0, 0, 50000 + 100 * i));
        }
        all.add(back);
        all.add(go);
        all.add(later);
        all.add(more);
        return all;
    }

    private static void needSame(String sentence, List<Step> done, Step refused) {
        Platterhouse scratch = play(done);
        int shows = scratch.all(1);
        int tickets = scratch.all(2);
        List<List<Step>> probes = futures(shows, tickets, holdsIn(done));
        int room = MOST_CALLS - done.size() - 1;
        if (room < 50) {
            bad(sentence, "there is no room to see whether " + refused.text + " changed anything");
            return;
        }
        List<Step> asked = questions(shows, tickets);
        for (int from = 0; from < asked.size(); from += room) {
            probes.add(asked.subList(from, Math.min(from + room, asked.size())));
        }
        for (List<Step> probe : probes) {
            Platterhouse touched = play(done);
            Platterhouse untouched = play(done);
            answer(touched, refused);
            for (int i = 0; i < probe.size() && i < room; i++) {
                String is = answer(touched, probe.get(i));
                String was = answer(untouched, probe.get(i));
                if (!is.equals(was)) {
                    bad(sentence, refused.text + " changed " + probe.get(i).text + " from " + was + " to " + is);
                    return;
                }
            }
        }
        checks++;
    }

    private static int holdsIn(List<Step> steps) {
        int count = 0;
        for (Step step : steps) {
            if (step.method.getName().equals("hold")) {
                count++;
            }
        }
        return count;
    }

    // ---- ranges: each argument at both ends and beyond, two beyond at once, and a refusal by the state beside it

    /**
     * `ranges` has a kind (I or A), the least and the most of each argument that has a range. With `full` (a run
     * after which the call is refused by the state; null if there is none) what is out of range still comes first.
     */
    private static void ranges(String sentence, String setup, String call, String ranges, String full) {
        String[] words = call.split(" ");
        String[] told = ranges.split(", ");
        List<Step> done = read(setup);
        for (int i = 0; i < told.length; i++) {
            String[] range = told[i].split(" ");
            int least = Integer.parseInt(range[1]);
            int most = Integer.parseInt(range[2]);
            for (int allowed : new int[] {least, most}) {
                String got = answer(play(done), step(with(words, i, allowed)));
                checks++;
                if (!got.matches("-?[0-9]+|true|false|null")) {
                    bad(sentence, with(words, i, allowed) + " answered " + got);
                }
            }
            for (int beyond : new int[] {least - 1, most + 1, LOW, HIGH, LOW + 1, HIGH - 1}) {
                refused(sentence, done, with(words, i, beyond), range[0]);
                if (full != null) {
                    refused(sentence, read(full), with(words, i, beyond), range[0]);
                }
            }
            for (int j = 0; j < i; j++) {
                twoBeyond(sentence, done, words, told, i, j);
                if (full != null) {
                    twoBeyond(sentence, read(full), words, told, i, j);
                }
            }
        }
        if (full != null) {
            refused(sentence, read(full), call, "S");
        }
    }

    private static void twoBeyond(String sentence, List<Step> done, String[] words, String[] told, int i, int j) {
        String[] one = told[i].split(" ");
        String[] two = told[j].split(" ");
        String due = one[0].equals("I") || two[0].equals("I") ? "I" : "A";
        for (int k = 0; k < 4; k++) {
            int first = k % 2 == 0 ? Integer.parseInt(one[1]) - 1 : Integer.parseInt(one[2]) + 1;
            int second = k / 2 == 0 ? Integer.parseInt(two[1]) - 1 : Integer.parseInt(two[2]) + 1;
            refused(sentence, done, with(with(words, i, first).split(" "), j, second), due);
        }
    }

    private static String with(String[] words, int index, int value) {
        String[] changed = words.clone();
        changed[index + 1] = Integer.toString(value);
        return String.join(" ", changed);
    }

    private static void refused(String sentence, List<Step> done, String call, String due) {
        Step step = step(call);
        String got = answer(play(done), step);
        checks++;
        if (!got.equals(due)) {
            bad(sentence, call + " answered " + got + ", due is " + due);
        }
        needSame(sentence, done, step);
    }

    // ---- houses that many runs begin with

    /** A hall with a row of two seats, a film of 30 minutes for all at 100, a key for all time. */
    private static final String SMALL = """
        hall 1 2
        film 30 0 100
        key 0 0 0 110000
        """;

    /** The same with show 0 at 1200, which costs 100. */
    private static final String SHOWN = SMALL + """
        show 0 0 1200
        """;

    /** The same with both seats sold, as tickets 0 and 1. */
    private static final String SOLD = SHOWN + """
        sell 0 0 0 30
        sell 0 0 1 30
        """;

    /** Two halls with a row of two seats, one film, no spread, lamps for all time. */
    private static final String TWO = SMALL + """
        hall 1 2
        key 0 1 0 110000
        spread 0
        lamp 0 100000 true
        lamp 1 100000 true
        """;

    /** Hall 0 with 48 seats and shows 1 to 9 there, hall 1 with two seats and show 0 there; 384 tickets are sold. */
    private static final String CROWD = """
        hall 6 8
        hall 1 2
        film 30 0 100
        key 0 0 0 110000
        key 0 1 0 110000
        spread 0
        show 0 1 4000
        show 0 0 1200
        show 0 0 1300
        show 0 0 2600
        show 0 0 2700
        show 0 0 2800
        show 0 0 4000
        show 0 0 4100
        show 0 0 4200
        show 0 0 4300
        6*group 1 8 30
        6*group 2 8 30
        6*group 3 8 30
        6*group 4 8 30
        6*group 5 8 30
        6*group 6 8 30
        6*group 7 8 30
        6*group 8 8 30
        """;

    /** 397 tickets are sold, 2 of them of show 0 (384 and 385), 11 of show 9, where row 5 is free. */
    private static final String LEFT_3 = CROWD + """
        sell 0 0 0 30
        sell 0 0 1 30
        group 9 8 30
        group 9 3 30
        """;

    private static final String LEFT_2 = LEFT_3 + "sell 9 5 0 30\n";
    private static final String LEFT_1 = LEFT_3 + "group 9 2 30\n";
    private static final String LEFT_0 = LEFT_3 + "group 9 3 30\n";

    /** 29 keys, two halls, two films. */
    private static final String KEYS_29 = SMALL + "hall 1 2\nfilm 40 0 100\n28*key 0 0 0 110000\n";

    /** Shows of hall 0, one right behind the other from minute 1 on: with 30, the next one fits at 1501. */
    private static String shows(int count) {
        StringBuilder text = new StringBuilder(TWO);
        for (int i = 0; i < count; i++) {
            text.append("show 0 0 ").append(1 + 50 * i).append('\n');
        }
        return text.toString();
    }

    private static String holds(int count) {
        StringBuilder text = new StringBuilder(SHOWN);
        for (int i = 0; i < count; i++) {
            text.append("hold 0 0 0 5 = ").append(i).append("\nletGo ").append(i).append(" = -1\n");
        }
        return text.toString();
    }

    // ---- the terms

    private static void time() {
        run("Time is told in minutes, from 0, at most 100000", """
            all 0 = 0
            20*pass 5000
            all 0 = 100000
            pass 1 ! S
            pass 5000 ! S
            pass 5001 ! A
            pass 0 ! A
            all 0 = 100000
            """);
        run("at most 100000, from one minute below", """
            19*pass 5000
            pass 4999 = 99999
            pass 2 ! S
            pass 5000 ! S
            pass 1 = 100000
            pass 1 ! S
            """);
        run("at most 100000, by the longest time that is left", """
            pass 1 = 1
            19*pass 5000
            pass 5000 ! S
            pass 4999 = 100000
            """);
        run("at 100000 nothing is above now", SMALL + """
            19*pass 5000
            pass 4999 = 99999
            fits 0 0 99999 ! A
            fits 0 0 100000 = 0
            first 0 0 100000 = 100000
            show 0 0 100000 = 0
            sell 0 0 0 30 = 0
            hold 0 0 1 5000 = 0
            pass 1 = 100000
            ofShow 0 3 = 1
            seat 0 0 0 = 0
            seat 0 0 1 = -1
            show 0 0 100000 ! A
            show 0 0 100001 ! A
            fits 0 0 100000 ! A
            first 0 0 100000 ! A
            first 0 0 100001 ! A
            breaks 0 = 75
            """);
        run("An object is used for at most 512 calls", SMALL + """
            508*spread 10 = 10
            show 0 0 1200 = 0
            """);
    }

    private static void days() {
        int[][] prices = {{1, 75}, {1079, 75}, {1080, 100}, {1439, 100}, {1440, 75}, {2519, 75}, {2520, 100},
            {2879, 100}, {2880, 75}, {98999, 75}, {99000, 100}, {99359, 100}, {99360, 75}, {100000, 75}};
        for (int[] p : prices) {
            run("a day has 1440; ahead of the minute 1080 of its day, three quarters", SMALL
                + "show 0 0 " + p[0] + " = 0\nprice 0 30 = " + p[1] + "\nsell 0 0 0 30 = 0\nofTicket 0 4 = " + p[1]);
        }
        int[][] rounded = {{999, 749, 374, 999, 499}, {3, 2, 1, 3, 1}, {2, 1, 0, 2, 1}, {1, 0, 0, 1, 0},
            {5, 3, 1, 5, 2}, {4, 3, 1, 4, 2}};
        for (int[] p : rounded) {
            run("three quarters, half of that then, all divisions are rounded down", """
                hall 1 2
                hall 1 2
                film 30 0 %d
                key 0 0 0 110000
                key 0 1 0 110000
                show 0 0 1079
                show 0 1 2520
                """.formatted(p[0]) + """
                price 0 12 = %d
                price 0 11 = %d
                price 1 12 = %d
                price 1 11 = %d
                """.formatted(p[1], p[2], p[3], p[4]) + """
                price 0 120 = %d
                price 0 0 = %d
                """.formatted(p[1], p[2]));
        }
    }

    private static void weeks() {
        run("a week has 10080, counted from 0 by all minutes", TWO + """
            show 0 0 10079
            show 0 1 10080
            show 0 1 1
            sell 0 0 0 30
            sell 1 0 0 30
            takings 0 0 = 100
            takings 0 1 = 75
            takings 0 2 = 0
            takingsAnew 0 0 = 100
            takingsAnew 0 1 = 75
            takingsAnew 0 2 = 0
            """);
        run("The week k of the film is the one that is k later", TWO + """
            show 0 0 10080
            show 0 1 20159
            show 0 0 20160
            show 0 1 30239
            show 0 0 30240
            sell 0 0 0 30
            sell 1 0 0 30
            sell 2 0 0 30
            sell 3 0 0 30
            sell 3 0 1 30
            sell 4 0 0 11
            takings 0 0 = 175
            takings 0 1 = 275
            takings 0 2 = 37
            takingsAnew 0 0 = 175
            takingsAnew 0 1 = 275
            takingsAnew 0 2 = 37
            """);
        run("week 0 to 9", TWO + """
            show 0 0 1200
            show 0 0 90719
            show 0 1 90720
            show 0 1 100000
            sell 1 0 0 30
            sell 2 0 0 30
            sell 3 0 0 30
            takings 0 0 = 0
            takings 0 7 = 0
            takings 0 8 = 100
            takings 0 9 = 150
            takingsAnew 0 8 = 100
            takingsAnew 0 9 = 150
            share 0 9 = 75
            takings 0 10 ! A
            takingsAnew 0 10 ! A
            share 0 10 ! A
            mustStay 0 10 ! A
            takings 0 -1 ! A
            takingsAnew 0 -1 ! A
            share 0 -1 ! A
            mustStay 0 -1 ! A
            cancel 0
            takings 0 0 = 100
            takings 0 1 = 150
            takings 0 9 = 0
            takingsAnew 0 9 = 0
            """);
        run("The opening is in the last week that there is", SMALL + """
            show 0 0 100000
            sell 0 0 0 30
            takings 0 0 = 75
            takings 0 1 = 0
            takings 0 9 = 0
            takingsAnew 0 0 = 75
            takingsAnew 0 9 = 0
            """);
    }

    private static void openings() {
        run("no opening without a show", SMALL + """
            takings 0 0 = 0
            takings 0 9 = 0
            takingsAnew 0 0 = 0
            share 0 0 = 0
            mustStay 0 0 = false
            mustStay 0 9 = false
            """);
        run("in which a show of it starts that is not CANCELLED", SOLD + """
            film 30 0 100
            takings 0 0 = 200
            takings 1 0 = 0
            mustStay 1 0 = false
            mustStay 0 0 = true
            cancel 0 = 200
            takings 0 0 = 0
            takingsAnew 0 0 = 0
            share 0 0 = 0
            mustStay 0 0 = false
            """);
        run("of it: not of another film", TWO + """
            film 30 0 200
            key 1 0 0 110000
            key 1 1 0 110000
            show 0 0 11200
            show 1 1 1200
            show 1 1 11200
            sell 0 0 0 30
            sell 1 0 0 30
            sell 2 0 0 30
            sell 2 0 1 30
            takings 0 0 = 100
            takings 0 1 = 0
            takings 1 0 = 200
            takings 1 1 = 400
            takingsAnew 0 0 = 100
            takingsAnew 0 1 = 0
            takingsAnew 1 0 = 200
            takingsAnew 1 1 = 400
            cancel 1 = 200
            takings 0 0 = 100
            takings 1 0 = 400
            takingsAnew 0 0 = 100
            takingsAnew 1 0 = 400
            share 1 0 = 200
            """);
        run("by all shows that there are by now", TWO + """
            show 0 0 30240
            sell 0 0 0 30
            takings 0 0 = 75
            show 0 0 20160
            takings 0 0 = 0
            takings 0 1 = 75
            show 0 0 10079
            takings 0 0 = 0
            takings 0 2 = 0
            takings 0 3 = 75
            takingsAnew 0 3 = 75
            cancel 2
            takings 0 1 = 75
            takingsAnew 0 1 = 75
            cancel 1
            takings 0 0 = 75
            takingsAnew 0 0 = 75
            """);
        run("a show that is RUNNING or OVER opens too", TWO + """
            show 0 0 5000
            show 0 0 12000
            sell 1 0 0 30
            takings 0 1 = 75
            pass 5000
            takings 0 1 = 75
            pass 29
            takings 0 1 = 75
            pass 1
            ofShow 0 3 = 2
            takings 0 1 = 75
            takings 0 0 = 0
            takingsAnew 0 1 = 75
            """);
        run("a BROKEN show opens, with a later one", TWO + """
            show 0 0 5000
            show 0 0 12000
            sell 1 0 0 30
            pass 5000
            breaks 0 = 0
            takings 0 1 = 75
            takings 0 0 = 0
            takingsAnew 0 1 = 75
            """);
        run("a BROKEN show alone opens", SOLD + """
            pass 1220
            breaks 0 = 100
            takings 0 0 = 100
            takingsAnew 0 0 = 100
            share 0 0 = 50
            mustStay 0 0 = true
            """);
    }

    private static void lamps() {
        String long20 = """
            hall 1 1
            film 240 0 1
            film 200 0 1
            film 201 0 1
            key 0 0 0 110000
            key 1 0 0 110000
            key 2 0 0 110000
            """;
        StringBuilder planned = new StringBuilder(long20);
        for (int i = 0; i < 20; i++) {
            planned.append("show 0 0 ").append(1 + 300 * i).append('\n');
        }
        run("a lamp has burned for 0 at first, and may burn for 5000 at first", planned + """
            ofHall 0 1 = 0
            ofHall 0 2 = 5000
            fits 1 0 9000 = 0
            fits 2 0 9000 = 4
            show 2 0 9000 ! S
            first 2 0 9000 = -1
            lamp 0 4999 false = 0
            fits 1 0 9000 = 4
            lamp 0 5000 false = 0
            show 1 0 9000 = 20
            fits 1 0 9900 = 4
            """);
        run("what it has burned, the shows that are PLANNED or RUNNING, and its own length", planned + """
            pass 302
            ofShow 0 3 = 2
            ofShow 1 3 = 1
            ofHall 0 1 = 240
            fits 1 0 9000 = 0
            fits 2 0 9000 = 4
            cancel 19 = 0
            lamp 0 4800 false = 240
            fits 0 0 9000 = 0
            lamp 0 4799 false = 240
            fits 0 0 9000 = 4
            breaks 1 = 0
            ofHall 0 1 = 241
            lamp 0 4561 false = 241
            fits 0 0 9000 = 0
            lamp 0 4560 false = 241
            fits 0 0 9000 = 4
            """);
        run("the lamp of the hall, the shows there", TWO + """
            lamp 0 59 false
            lamp 1 30 false
            show 0 0 1200
            fits 0 0 1400 = 4
            fits 0 1 1400 = 0
            lamp 1 29 false
            fits 0 1 1400 = 4
            """);
        run("the lamp of the hall, the shows in one with a greater number", TWO + """
            lamp 0 30 false
            lamp 1 59 false
            show 0 1 1200
            fits 0 1 1400 = 4
            fits 0 0 1400 = 0
            pass 1230
            lamp 1 60 false = 30
            fits 0 1 1400 = 0
            fits 0 0 1400 = 0
            """);
        run("When a show is over, its lamp has burned for its length", SHOWN + """
            pass 1229
            ofHall 0 1 = 0
            pass 1
            ofHall 0 1 = 30
            """);
        run("when it breaks, for the minutes since its start", TWO + """
            show 0 0 1200
            show 0 1 1200
            pass 1200
            breaks 0 = 0
            ofHall 0 1 = 0
            pass 29
            breaks 1 = 0
            ofHall 1 1 = 29
            pass 1
            ofHall 0 1 = 0
            ofHall 1 1 = 29
            """);
    }

    private static void states() {
        run("PLANNED at first, RUNNING from its start on, OVER from its end on", SHOWN + """
            ofShow 0 3 = 0
            pass 1199
            ofShow 0 3 = 0
            ofHall 0 3 = -1
            pass 1
            ofShow 0 3 = 1
            ofHall 0 3 = 0
            pass 29
            ofShow 0 3 = 1
            ofHall 0 3 = 0
            pass 1
            ofShow 0 3 = 2
            ofHall 0 3 = -1
            """);
        run("its end is the start and the length, at the longest", """
            hall 1 1
            film 240 0 100
            key 0 0 1 241
            show 0 0 1
            pass 1
            ofShow 0 3 = 1
            pass 239
            ofShow 0 3 = 1
            pass 1
            ofShow 0 3 = 2
            ofHall 0 1 = 240
            """);
        run("an end beyond all time is never reached", SMALL + """
            show 0 0 99971
            show 0 0 99900
            20*pass 5000
            ofShow 0 3 = 1
            ofShow 1 3 = 2
            ofHall 0 3 = 0
            ofHall 0 1 = 30
            breaks 0 = 0
            ofHall 0 1 = 59
            """);
        run("an end at the last minute is reached", SMALL + """
            show 0 0 99970
            20*pass 5000
            ofShow 0 3 = 2
            """);
        run("several ends and starts in one call", TWO + """
            show 0 0 100
            show 0 1 130
            show 0 0 150
            show 0 1 5000
            pass 5000
            ofShow 0 3 = 2
            ofShow 1 3 = 2
            ofShow 2 3 = 2
            ofShow 3 3 = 1
            ofHall 0 1 = 60
            ofHall 1 1 = 30
            """);
    }

    private static void keysAndHalls() {
        run("a key from its start, or earlier, to its end, or later", """
            hall 1 1
            hall 1 1
            film 30 0 100
            film 30 0 100
            key 0 0 500 560
            fits 0 0 499 = 1
            fits 0 0 500 = 0
            fits 0 0 530 = 0
            fits 0 0 531 = 1
            fits 1 0 500 = 1
            fits 0 1 500 = 1
            key 0 0 560 620
            fits 0 0 531 = 1
            fits 0 0 559 = 1
            fits 0 0 560 = 0
            fits 0 0 590 = 0
            fits 0 0 591 = 1
            key 1 1 700 730
            fits 1 1 699 = 1
            fits 1 1 700 = 0
            fits 1 1 701 = 1
            fits 0 1 700 = 1
            fits 1 0 700 = 1
            key 1 0 800 830
            fits 0 0 800 = 1
            key 0 1 900 930
            fits 0 0 900 = 1
            fits 1 1 900 = 1
            """);
        run("a key that is one minute too short", """
            hall 1 1
            film 30 0 100
            key 0 0 500 529
            fits 0 0 500 = 1
            first 0 0 1 = -1
            key 0 0 100000 110000
            fits 0 0 100000 = 0
            fits 0 0 99999 = 1
            """);
        run("the end and 20 of either are not above the start of the other", """
            hall 1 1
            film 30 0 100
            film 240 0 100
            key 0 0 0 110000
            key 1 0 0 110000
            show 0 0 1000
            fits 0 0 950 = 0
            fits 0 0 951 = 2
            fits 0 0 1000 = 2
            fits 0 0 1049 = 2
            fits 0 0 1050 = 0
            fits 1 0 740 = 0
            fits 1 0 741 = 2
            fits 1 0 1049 = 2
            fits 1 0 1050 = 0
            show 0 0 950 = 1
            show 0 0 1050 = 2
            show 1 0 1100 = 3
            fits 0 0 1359 = 2
            fits 0 0 1360 = 0
            """);
        run("of some show in the hall, PLANNED or RUNNING", TWO + """
            show 0 0 1000
            fits 0 1 1000 = 0
            pass 1010
            fits 0 0 1049 = 2
            fits 0 0 1050 = 0
            pass 19
            fits 0 0 1030 = 2
            pass 1
            fits 0 0 1031 = 0
            show 0 0 1100
            fits 0 0 1100 = 2
            cancel 1 = 0
            fits 0 0 1100 = 0
            show 0 0 1100
            pass 80
            breaks 2 = 0
            fits 0 0 1111 = 0
            """);
    }

    private static void spreads() {
        run("10 at first", """
            hall 1 1
            hall 1 1
            film 30 0 100
            key 0 0 0 110000
            key 0 1 0 110000
            show 0 0 1000
            fits 0 1 990 = 0
            fits 0 1 991 = 3
            fits 0 1 1000 = 3
            fits 0 1 1009 = 3
            fits 0 1 1010 = 0
            """);
        run("0, if both start at once", TWO + """
            show 0 0 1000
            fits 0 1 1000 = 0
            spread 1 = 0
            fits 0 1 999 = 0
            fits 0 1 1000 = 3
            fits 0 1 1001 = 0
            spread 60 = 1
            fits 0 1 940 = 0
            fits 0 1 941 = 3
            fits 0 1 1059 = 3
            fits 0 1 1060 = 0
            fits 0 0 1050 = 0
            fits 0 0 950 = 0
            """);
        run("some show in another hall, PLANNED or RUNNING", TWO + """
            spread 60 = 0
            show 0 0 1000
            pass 1010
            fits 0 1 1059 = 3
            fits 0 1 1060 = 0
            pass 20
            ofShow 0 3 = 2
            fits 0 1 1031 = 0
            show 0 0 1100
            fits 0 1 1041 = 3
            cancel 1
            fits 0 1 1041 = 0
            show 0 0 1100
            pass 71
            fits 0 1 1102 = 3
            breaks 2
            fits 0 1 1102 = 0
            """);
        run("by the first of these", """
            hall 1 1
            hall 1 1
            film 30 0 100
            key 0 0 100 2000
            key 0 1 0 110000
            show 0 0 500
            show 0 1 520
            show 0 1 600
            show 0 0 1940
            fits 0 0 519 = 2        # 2 and 3
            fits 0 0 605 = 3        # 3 alone
            fits 0 0 700 = 0
            fits 0 0 99 = 1
            fits 0 0 1971 = 1       # 1 and 2
            lamp 0 60 false
            fits 0 0 519 = 2        # 2, 3 and 4
            fits 0 0 549 = 2        # 2 and 4
            fits 0 0 605 = 3        # 3 and 4
            fits 0 0 700 = 4        # 4 alone
            fits 0 0 99 = 1         # 1 and 4
            fits 0 0 1971 = 1       # 1, 2 and 4
            show 0 1 1975
            fits 0 0 1971 = 1       # all four
            show 0 0 1971 ! S
            show 0 0 519 ! S
            show 0 0 605 ! S
            show 0 0 700 ! S
            """);
        run("1 and 3", TWO + """
            hall 1 1
            spread 10
            show 0 0 500
            fits 0 2 505 = 1
            show 0 2 505 ! S
            """);
    }

    private static void holdsEnd() {
        run("from now on for some minutes", SHOWN + """
            pass 100
            hold 0 0 0 1 = 0
            hold 0 0 1 7 = 1
            pass 1
            seat 0 0 0 = -1
            seat 0 0 1 = 1001
            pass 5
            seat 0 0 1 = 1001
            all 3 = 1
            pass 1
            seat 0 0 1 = -1
            all 3 = 0
            letGo 1 ! S
            buy 1 30 ! S
            """);
        run("for 5000 at most", SMALL + """
            show 0 0 9000
            hold 0 0 0 5000 = 0
            hold 0 0 1 4999 = 1
            pass 4998
            seat 0 0 1 = 1001
            pass 1
            seat 0 0 1 = -1
            seat 0 0 0 = 1000
            pass 1
            seat 0 0 0 = -1
            """);
        for (int minutes : new int[] {1200, 1201, 5000}) {
            run("not beyond the start of the show", SHOWN + "hold 0 0 0 " + minutes + """

                pass 1199
                seat 0 0 0 = 1000
                all 3 = 1
                pass 1
                seat 0 0 0 = -1
                all 3 = 0
                letGo 0 ! S
                """);
        }
        run("one minute short of the start", SHOWN + """
            hold 0 0 0 1199
            pass 1198
            seat 0 0 0 = 1000
            pass 1
            seat 0 0 0 = -1
            ofShow 0 3 = 0
            sell 0 0 0 30 = 0
            """);
        run("at that minute it ends, ahead of the show's running", SHOWN + """
            sell 0 0 0 30
            hold 0 0 1 5000
            join 0 40 false = 0
            join 0 41 false = 1
            pass 1199
            all 2 = 1
            pass 1
            all 2 = 2
            seat 0 0 1 = 1
            ofTicket 1 3 = 40
            ofTicket 1 4 = 100
            ofShow 0 3 = 1
            ofShow 0 4 = 2
            ofShow 0 5 = 0
            ofShow 0 6 = 0
            ofShow 0 7 = 200
            """);
        run("the last hold at its last minute can still be bought", SHOWN + """
            hold 0 0 0 10
            pass 9
            buy 0 30 = 0
            pass 1
            seat 0 0 0 = 0
            """);
        run("holds are numbered from 0, at most 100 ever", holds(100) + """
            all 3 = 0
            hold 0 0 0 5 ! S
            letGo 99 ! S
            letGo 100 ! I
            buy 100 30 ! I
            buy 99 30 ! S
            """);
        run("the last of 100 holds is open", holds(99) + """
            hold 0 0 0 5 = 99
            seat 0 0 0 = 1099
            hold 0 0 1 5 ! S
            hold 0 0 0 5 ! S
            hold 0 0 1 0 ! A
            hold 0 0 2 5 ! I
            buy 99 30 = 0
            hold 0 0 1 5 ! S
            """);
    }

    private static void lines() {
        run("goes at once to the first one in the line, if there is one", SOLD + """
            giveBack 0 = 100
            seat 0 0 0 = -1
            ofShow 0 4 = 1
            ofShow 0 6 = 0
            sell 0 0 0 30 = 2
            join 0 11 false = 0
            giveBack 2 = 100
            seat 0 0 0 = 3
            ofTicket 3 0 = 0
            ofTicket 3 1 = 0
            ofTicket 3 2 = 0
            ofTicket 3 3 = 11
            ofTicket 3 4 = 50
            ofTicket 3 5 = 0
            ofShow 0 6 = 0
            giveBack 3 = 50
            seat 0 0 0 = -1
            """);
        run("the new ticket is at the price for that age", SOLD + """
            join 0 11 false = 0
            join 0 12 false = 1
            giveBack 1 = 100
            giveBack 0 = 100
            ofTicket 2 4 = 50
            ofTicket 2 2 = 1
            ofTicket 3 4 = 100
            ofTicket 3 2 = 0
            ofShow 0 7 = 150
            """);
        run("they come to its end, but members are ahead of all others", SOLD + """
            join 0 20 true = 0
            join 0 21 true = 1
            join 0 22 false = 2
            join 0 23 false = 3
            join 0 24 true = 2
            giveBack 0
            ofTicket 2 3 = 20
            giveBack 2
            ofTicket 3 3 = 21
            giveBack 3
            ofTicket 4 3 = 24
            join 0 25 true = 0
            giveBack 4
            ofTicket 5 3 = 25
            giveBack 5
            ofTicket 6 3 = 22
            join 0 26 true = 0
            join 0 27 false = 2
            giveBack 6
            ofTicket 7 3 = 26
            giveBack 7
            ofTicket 8 3 = 23
            giveBack 8
            ofTicket 9 3 = 27
            ofShow 0 6 = 0
            giveBack 9
            seat 0 0 0 = -1
            """);
        run("the line of another show is as it was", TWO + """
            show 0 0 1200
            show 0 1 1200
            sell 0 0 0 30
            sell 0 0 1 30
            sell 1 0 0 30
            sell 1 0 1 30
            join 0 40 false = 0
            join 1 41 false = 0
            giveBack 2
            seat 1 0 0 = 4
            ofTicket 4 3 = 41
            ofShow 0 6 = 1
            ofShow 1 6 = 0
            giveBack 3
            seat 1 0 1 = -1
            """);
        run("If there are 400 tickets, it stays free, and the line as it is, also later on", LEFT_1 + """
            join 0 50 true = 0
            join 0 51 false = 1
            all 2 = 399
            giveBack 384 = 100
            seat 0 0 0 = 399
            all 2 = 400
            giveBack 385 = 100
            seat 0 0 1 = -1
            ofShow 0 6 = 1
            giveBack 399 = 100
            seat 0 0 0 = -1
            ofShow 0 6 = 1
            hold 0 0 0 5 = 0
            letGo 0 = -1
            ofShow 0 6 = 1
            hold 0 0 0 5 = 1
            hold 0 0 1 5 = 2
            join 0 52 true = 0
            pass 5
            seat 0 0 0 = -1
            ofShow 0 6 = 2
            join 0 53 true ! S
            all 2 = 400
            pass 3995
            ofShow 0 6 = 0
            ofShow 0 4 = 0
            """);
        run("the 400th ticket of two holds that end at once", LEFT_1 + """
            giveBack 384
            giveBack 385
            hold 0 0 1 5 = 0
            hold 0 0 0 5 = 1
            join 0 60 false = 0
            join 0 61 false = 1
            pass 5
            seat 0 0 1 = 399
            ofTicket 399 3 = 60
            seat 0 0 0 = -1
            ofShow 0 6 = 1
            """);
    }

    private static void minutes() {
        run("then the holds end whose time is over then, by numbers", SHOWN + """
            hold 0 0 1 50 = 0
            hold 0 0 0 50 = 1
            join 0 20 false = 0
            join 0 21 false = 1
            pass 50
            seat 0 0 1 = 0
            seat 0 0 0 = 1
            ofTicket 0 3 = 20
            ofTicket 1 3 = 21
            """);
        run("the line has one for two holds", SHOWN + """
            hold 0 0 1 50 = 0
            hold 0 0 0 50 = 1
            join 0 20 false = 0
            pass 50
            seat 0 0 1 = 0
            seat 0 0 0 = -1
            """);
        run("a hold with a greater number that ends earlier", SHOWN + """
            hold 0 0 1 50 = 0
            hold 0 0 0 49 = 1
            join 0 20 false = 0
            pass 5000
            seat 0 0 0 = 0
            seat 0 0 1 = -1
            """);
        run("holds of two shows end by numbers", TWO + """
            show 0 0 1200
            show 0 1 1200
            sell 0 0 0 30 = 0
            sell 1 0 0 30 = 1
            hold 1 0 1 5000 = 0
            hold 0 0 1 1200 = 1
            join 0 20 false = 0
            join 1 21 true = 0
            pass 1200
            ofTicket 2 0 = 1
            ofTicket 2 3 = 21
            ofTicket 3 0 = 0
            ofTicket 3 3 = 20
            """);
        run("then shows run whose start it is: their lines are gone", TWO + """
            show 0 0 1200
            show 0 1 1201
            sell 0 0 0 30
            sell 0 0 1 30
            sell 1 0 0 30
            sell 1 0 1 30
            join 0 40 true
            join 1 41 true
            pass 1199
            ofShow 0 6 = 1
            pass 1
            ofShow 0 6 = 0
            ofShow 1 6 = 1
            giveBack 2 = 100
            seat 1 0 0 = 4
            pass 1
            ofShow 1 6 = 0
            """);
    }

    private static void asksChangeNothing() {
        String rich = TWO + """
            show 0 0 1200
            show 0 1 1200
            sell 0 0 0 30
            hold 0 0 1 100
            join 0 40 true
            join 0 41 false
            sell 1 0 0 30
            giveBack 1
            hold 1 0 0 10
            letGo 1
            show 0 0 10
            pass 20
            """;
        String asks = """
            fits 0 0 500
            fits 0 0 1200
            first 0 0 1190
            first 0 1 30
            price 0 30
            price 0 5
            seat 0 0 0
            seat 0 0 1
            seat 1 0 0
            ofShow 0 0
            ofShow 0 3
            ofShow 0 4
            ofShow 0 5
            ofShow 0 6
            ofShow 0 7
            ofTicket 0 0
            ofTicket 1 5
            ofHall 0 0
            ofHall 0 1
            ofHall 0 3
            takings 0 0
            takings 0 9
            takingsAnew 0 0
            share 0 0
            mustStay 0 0
            audit 0 1
            all 0
            all 1
            all 2
            all 3
            all 4
            """;
        List<Step> done = read(rich);
        for (Step ask : read(asks)) {
            checks++;
            if (!answer(play(done), ask).matches("-?[0-9]+|true|false")) {
                bad("all else is asked, which changes nothing", ask.text + " was refused");
            }
            needSame("all else is asked, which changes nothing", done, ask);
        }
    }

    /** All that there may be at most, in one object. */
    private static void fullHouse() {
        StringBuilder text = new StringBuilder("3*hall 6 8\nhall 1 2\n8*film 30 0 100\nspread 0\n");
        for (int i = 0; i < 30; i++) {
            text.append("key ").append(i / 4).append(' ').append(i % 4).append(" 0 110000 = ").append(i).append('\n');
        }
        for (int i = 0; i < 30; i++) {
            text.append("show ").append(i / 8).append(' ').append(i % 4).append(' ').append(1200 + 50 * (i / 4))
                .append(" = ").append(i).append('\n');
        }
        text.append("sell 3 0 0 120 = 0\nsell 3 0 1 120 = 1\ngroup 0 6 30 = 2\n");
        for (int i = 0; i < 49; i++) {
            int show = 4 * (i / 15) + i / 5 % 3;
            text.append("group ").append(show).append(" 8 30 = ").append(8 + 8 * i).append('\n');
        }
        for (int i = 0; i < 100; i++) {
            text.append("hold ").append(20 + i / 48).append(' ').append(i % 48 / 8).append(' ').append(i % 8)
                .append(" 5000 = ").append(i).append('\n');
        }
        text.append("40*join 3 119 true\n");
        run("all that there may be at most", text + """
            all 1 = 30
            all 2 = 400
            all 3 = 100
            all 4 = 40000
            takings 0 0 = 24800
            takingsAnew 0 0 = 24800
            ofShow 3 6 = 40
            hall 1 1 ! S
            film 30 0 1 ! S
            key 0 0 0 1 ! S
            show 0 0 50000 ! S
            hold 24 0 0 1 ! S
            sell 24 0 0 30 ! S
            group 24 2 30 ! S
            buy 99 30 ! S
            join 3 119 true ! S
            lamp 4 1 true ! I
            terms 8 0 0 0 0 0 ! I
            cancel 30 ! I
            letGo 100 ! I
            giveBack 400 ! I
            lamp 3 100000 true = 0
            terms 7 100 100 100 100000 100000
            letGo 99 = -1
            giveBack 399 = 100
            audit 0 399 = 39900
            """);
    }

    // ---- the promises

    private static void promise1() {
        run("1: No halls, no films; the minute 0", """
            all 0 = 0
            all 1 = 0
            all 2 = 0
            all 3 = 0
            all 4 = 0
            lamp 0 1 true ! I
            terms 0 0 0 0 0 0 ! I
            key 0 0 0 1 ! I
            show 0 0 1 ! I
            cancel 0 ! I
            breaks 0 ! I
            hold 0 0 0 1 ! I
            letGo 0 ! I
            buy 0 30 ! I
            sell 0 0 0 30 ! I
            group 0 2 30 ! I
            giveBack 0 ! I
            join 0 30 true ! I
            fits 0 0 1 ! I
            first 0 0 1 ! I
            price 0 30 ! I
            seat 0 0 0 ! I
            ofShow 0 0 ! I
            ofTicket 0 0 ! I
            ofHall 0 0 ! I
            takings 0 0 ! I
            takingsAnew 0 0 ! I
            share 0 0 ! I
            mustStay 0 0 ! I
            audit 0 0 ! I
            audit 0 -1 ! I
            spread 0 = 10
            pass 1 = 1
            hall 1 1 = 0
            film 30 0 1 = 0
            """);
        run("1: a hall without films, a film without halls", """
            hall 1 1 = 0
            key 0 0 0 1 ! I
            key -1 0 0 1 ! I
            show 0 0 1 ! I
            fits 0 0 1 ! I
            first 0 0 1 ! I
            """);
        run("1: a film without halls", """
            film 30 0 1 = 0
            key 0 0 0 1 ! I
            show 0 0 1 ! I
            fits 0 0 1 ! I
            first 0 0 1 ! I
            """);
    }

    private static void promises2To7() {
        ranges("2: rows 1 to 6, seats 1 to 8", "hall 2 3\n", "hall 2 3", "A 1 6, A 1 8", "4*hall 2 3\n");
        run("2: if there are 4", """
            hall 1 1 = 0
            hall 6 8 = 1
            hall 1 8 = 2
            hall 6 1 = 3
            hall 1 1 ! S
            hall 6 8 ! S
            hall 0 1 ! A
            hall 1 9 ! A
            ofHall 0 0 = 1
            ofHall 1 0 = 48
            ofHall 2 0 = 8
            ofHall 3 0 = 6
            ofHall 4 0 ! I
            lamp 3 1 true = 0
            lamp 4 1 true ! I
            """);
        ranges("3: minutes 1 to 100000", SHOWN + "hall 1 1\nshow 0 0 5\npass 35\n", "lamp 0 60 true",
            "I 0 1, A 1 100000", null);
        run("3: in place of what was told; how long it had burned", SHOWN + """
            show 0 0 100
            pass 130
            lamp 0 0 true ! A
            lamp 0 100001 true ! A
            lamp 1 60 true ! I
            lamp 1 0 true ! I
            lamp -1 100001 false ! I
            ofHall 0 1 = 30
            ofHall 0 2 = 5000
            lamp 0 1 false = 30
            ofHall 0 1 = 30
            ofHall 0 2 = 1
            fits 0 0 5000 = 4
            lamp 0 90 false = 30
            fits 0 0 5000 = 0
            lamp 0 89 false = 30
            fits 0 0 5000 = 4
            lamp 0 60 true = 30
            ofHall 0 1 = 0
            fits 0 0 5000 = 0
            lamp 0 59 true = 0
            fits 0 0 5000 = 4
            lamp 0 100000 false = 0
            ofHall 0 2 = 100000
            """);
        run("3: A show that is RUNNING counts, for its whole length, as it is over", SHOWN + """
            pass 1229
            lamp 0 60 true = 0
            fits 0 0 5000 = 0
            lamp 0 59 true = 0
            fits 0 0 5000 = 4
            pass 1
            ofHall 0 1 = 30
            lamp 0 59 true = 30
            fits 0 0 5000 = 0
            """);
        run("3: one that breaks under a new lamp", SHOWN + """
            pass 1210
            lamp 0 5000 true = 0
            pass 10
            breaks 0 = 0
            ofHall 0 1 = 20
            """);
        ranges("4: length 30 to 240, age 0 to 18, price 1 to 999", "film 30 0 1\n", "film 60 12 100",
            "A 30 240, A 0 18, A 1 999", "8*film 30 0 1\n");
        run("4: if there are 8", """
            film 30 0 1 = 0
            film 240 18 999 = 1
            film 60 9 100 = 2
            film 60 9 100 = 3
            film 60 9 100 = 4
            film 60 9 100 = 5
            film 60 9 100 = 6
            film 60 9 100 = 7
            film 60 9 100 ! S
            film 29 9 100 ! A
            film 60 19 100 ! A
            film 60 9 0 ! A
            takings 7 0 = 0
            takings 8 0 ! I
            terms 7 0 0 0 0 0
            terms 8 0 0 0 0 0 ! I
            """);
        ranges("5: first, step and floor 0 to 100, nut and keep 0 to 100000", SOLD, "terms 0 60 5 20 10 10",
            "I 0 0, A 0 100, A 0 100, A 0 100, A 0 100000, A 0 100000", null);
        run("5: a refused call tells none of its terms", SOLD + """
            terms 0 10 0 0 0 0
            share 0 0 = 20
            terms 0 90 90 90 90 100001 ! A
            terms 0 101 90 90 90 90 ! A
            terms 1 90 90 90 90 90 ! I
            terms 1 101 90 90 90 90 ! I
            terms -1 90 -1 90 90 100001 ! I
            share 0 0 = 20
            mustStay 0 0 = true
            terms 0 0 0 0 0 201
            share 0 0 = 0
            mustStay 0 0 = false
            terms 0 100 100 100 100000 100000
            share 0 0 = 200
            """);
        ranges("6: from 0 to 100000, to at most 110000", KEYS_29, "key 0 0 0 110000",
            "I 0 1, I 0 1, A 0 100000, A 1 110000", KEYS_29 + "key 1 1 0 110000\n");
        run("6: from and 1, together", """
            hall 1 1
            film 30 0 1
            key 0 0 500 499 ! A
            key 0 0 500 500 ! A
            key 0 0 500 501 = 0
            key 0 0 0 0 ! A
            key 0 0 0 1 = 1
            key 0 0 100000 100000 ! A
            key 0 0 100000 100001 = 2
            key 0 0 100000 110000 = 3
            key 0 0 100000 110001 ! A
            key 0 0 100001 110000 ! A
            key 0 0 100001 100002 ! A
            key 0 0 2147483647 -2147483648 ! A
            key 0 0 2147483647 2147483647 ! A
            key 0 0 -1 0 ! A
            key 0 0 -1 5 ! A
            key 0 0 -2147483648 -2147483647 ! A
            key 1 0 0 0 ! I
            key 0 1 0 0 ! I
            key 1 1 -1 110001 ! I
            """);
        run("6: if there are 30", """
            hall 1 1
            film 30 0 1
            29*key 0 0 1 2
            key 0 0 1 3 = 29
            key 0 0 1 3 ! S
            key 0 0 3 3 ! A
            key 0 0 -1 3 ! A
            key 0 1 1 3 ! I
            key 1 0 1 3 ! I
            key 1 0 3 3 ! I
            fits 0 0 1 = 1
            """);
        run("6: the thirtieth key opens", """
            hall 1 1
            film 30 0 1
            29*key 0 0 1 2
            key 0 0 1 31 = 29
            fits 0 0 1 = 0
            key 0 0 0 110000 ! S
            fits 0 0 2 = 1
            """);
        ranges("7: 0 to 60", SMALL, "spread 30", "A 0 60", null);
        run("7: the spread before", """
            spread 60 = 10
            spread 0 = 60
            spread 61 ! A
            spread -1 ! A
            spread 10 = 0
            """);
    }

    private static void promise8() {
        ranges("8: start above now, at most 100000", TWO + "pass 100\n", "show 0 0 500", "I 0 0, I 0 1, A 101 100000",
            shows(30) + "pass 100\n");
        ranges("8: it does not fit", SMALL + "pass 100\n", "show 0 0 500", "I 0 0, I 0 0, A 101 100000",
            SMALL + "show 0 0 500\npass 100\n");
        run("8: above now", SMALL + """
            show 0 0 0 ! A
            show 0 0 1 = 0
            pass 1
            show 0 0 1 ! A
            show 0 0 0 ! A
            pass 49
            show 0 0 50 ! A
            show 0 0 51 = 1
            show 0 0 100001 ! A
            show 0 0 100000 = 2
            show 0 0 100000 ! S
            show 1 0 0 ! I
            show 0 1 0 ! I
            show 1 1 100001 ! I
            """);
        run("8: or there are 30", shows(29) + """
            show 0 0 1451 = 29
            show 0 0 5000 ! S
            show 0 0 1451 ! S
            show 0 0 0 ! A
            show 1 0 5000 ! I
            fits 0 0 5000 = 0
            first 0 0 5000 = 5000
            cancel 29 = 0
            show 0 0 5000 ! S
            all 1 = 30
            pass 5000
            show 0 0 6000 ! S
            ofShow 29 3 = 4
            ofShow 30 3 ! I
            """);
        for (String start : new String[] {"499 1", "1000 2", "2205 3", "3000 4"}) {
            String[] words = start.split(" ");
            run("8: if it does not fit", """
                hall 1 1
                hall 1 1
                film 30 0 1
                key 0 0 500 110000
                key 0 1 0 110000
                show 0 0 1000
                show 0 1 2200
                lamp 0 59 false
                """ + "fits 0 0 " + words[0] + " = " + words[1] + "\nshow 0 0 " + words[0] + " ! S\nall 1 = 2\n");
        }
    }

    private static void promises9And10() {
        ranges("9: no such show", SOLD + "show 0 0 1300\n", "cancel 0", "I 0 1", null);
        run("9: if it is not PLANNED", SOLD + """
            show 0 0 1300
            show 0 0 1400
            cancel 1 = 0
            cancel 1 ! S
            pass 1199
            cancel 2 = 0
            pass 1
            cancel 0 ! S
            pass 29
            cancel 0 ! S
            pass 1
            cancel 0 ! S
            cancel 3 ! I
            cancel -1 ! I
            """);
        run("9: BROKEN", SOLD + """
            pass 1200
            breaks 0 = 200
            cancel 0 ! S
            """);
        run("9: at the last minute ahead of its start", SOLD + """
            pass 1199
            cancel 0 = 200
            ofShow 0 3 = 4
            pass 1
            ofShow 0 3 = 4
            pass 30
            ofShow 0 3 = 4
            ofHall 0 1 = 0
            """);
        run("9: all its tickets that were not given back; its holds; its line; its seats", TWO + """
            show 0 0 1200
            show 0 1 1200
            sell 0 0 0 30
            sell 1 0 0 30
            hold 0 0 1 50
            hold 1 0 1 50
            join 0 20 true
            join 0 11 false
            join 0 22 false
            join 1 21 true
            giveBack 0 = 100
            giveBack 2 = 100
            ofTicket 3 4 = 50
            ofShow 0 6 = 1
            cancel 0 = 50
            all 2 = 4
            all 3 = 1
            all 4 = 100
            seat 0 0 0 = -1
            seat 0 0 1 = -1
            ofShow 0 4 = 0
            ofShow 0 5 = 0
            ofShow 0 6 = 0
            ofShow 0 7 = 0
            ofTicket 0 5 = 1
            ofTicket 2 5 = 1
            ofTicket 3 5 = 1
            ofTicket 3 4 = 0
            ofTicket 1 5 = 0
            seat 1 0 0 = 1
            seat 1 0 1 = 1001
            ofShow 1 6 = 1
            letGo 0 ! S
            buy 0 30 ! S
            giveBack 3 ! S
            hold 0 0 0 5 ! S
            sell 0 0 0 30 ! S
            group 0 2 30 ! S
            join 0 30 true ! S
            breaks 0 ! S
            letGo 1 = 4
            """);
        run("9: what is of a show with a lower number stays", TWO + """
            show 0 0 1200
            show 0 1 1200
            sell 0 0 0 30
            hold 0 0 1 50
            join 0 20 true
            sell 1 0 0 30
            cancel 1 = 100
            all 3 = 1
            seat 0 0 0 = 0
            seat 0 0 1 = 1000
            ofShow 0 6 = 1
            ofTicket 0 5 = 0
            letGo 0 = 2
            """);
        run("9: a hold of it does not end twice", SHOWN + """
            show 0 0 1300
            hold 0 0 0 50
            cancel 0 = 0
            all 3 = 0
            pass 50
            seat 0 0 0 = -1
            all 2 = 0
            ofShow 1 3 = 0
            """);
        run("9: the hall is free again", SHOWN + """
            fits 0 0 1200 = 2
            cancel 0 = 0
            show 0 0 1200 = 1
            """);
        ranges("10: no such show", SOLD + "pass 1200\n", "breaks 0", "I 0 0", null);
        run("10: if it is not RUNNING", SOLD + """
            breaks 0 ! S
            pass 1199
            breaks 0 ! S
            pass 1
            breaks 0 = 200
            breaks 0 ! S
            breaks 1 ! I
            breaks -1 ! I
            giveBack 0 ! S
            """);
        run("10: its last minute, its end", TWO + """
            show 0 0 1200
            show 0 1 1201
            pass 1230
            breaks 0 ! S
            breaks 1 = 0
            show 0 0 1300
            cancel 2
            breaks 2 ! S
            """);
        int[][] early = {{30, 19}, {31, 20}, {32, 21}, {33, 21}, {100, 66}, {240, 159}};
        for (int[] e : early) {
            for (int later = 0; later < 2; later++) {
                int back = later == 0 ? 75 + 37 : 37 + 18;
                run("10: all, if 3 times the minutes are less than 2 times the length; otherwise half", """
                    hall 1 4
                    """ + "film " + e[0] + " 0 100\n" + """
                    key 0 0 0 110000
                    show 0 0 1000
                    sell 0 0 0 30
                    sell 0 0 1 11
                    sell 0 0 2 30
                    giveBack 2 = 75
                    pass 1000
                    """ + "pass " + (e[1] + later) + "\nbreaks 0 = " + back + """

                    ofShow 0 3 = 3
                    ofTicket 0 5 = 0
                    ofTicket 1 5 = 0
                    ofTicket 2 5 = 1
                    ofTicket 2 4 = 0
                    seat 0 0 0 = 0
                    seat 0 0 1 = 1
                    seat 0 0 2 = -1
                    ofShow 0 4 = 2
                    """ + "ofShow 0 7 = " + (112 - back) + "\nofTicket 0 4 = " + (later == 0 ? 0 : 38)
                    + "\nofTicket 1 4 = " + (later == 0 ? 0 : 19) + "\nall 4 = " + (112 - back)
                    + "\nofHall 0 1 = " + (e[1] + later));
            }
        }
        run("10: half of 1 and of 0, rounded down", """
            hall 1 2
            film 30 0 1
            key 0 0 0 110000
            show 0 0 1080
            sell 0 0 0 30
            sell 0 0 1 11
            pass 1100
            breaks 0 = 0
            ofTicket 0 4 = 1
            ofTicket 1 4 = 0
            """);
    }

    private static void promise11() {
        ranges("11: 1 to 5000", SOLD, "pass 100", "A 1 5000", "19*pass 5000\npass 4950\n");
        run("11: if it would be above 100000", """
            19*pass 5000
            pass 4950 = 99950
            pass 51 ! S
            pass 5000 ! S
            pass 5001 ! A
            pass 2147483647 ! A
            pass -50 ! A
            pass 50 = 100000
            pass 1 ! S
            """);
        run("11: a refused one lets nothing end", SMALL + """
            show 0 0 99960
            19*pass 5000
            pass 4950
            hold 0 0 0 5
            pass 51 ! S
            pass 0 ! A
            seat 0 0 0 = 1000
            ofShow 0 3 = 0
            pass 50 = 100000
            ofShow 0 3 = 2
            """);
    }

    private static void promise12() {
        String small = "hall 2 3\nfilm 30 12 100\nkey 0 0 0 110000\nshow 0 0 1200\n";
        ranges("12: minutes 1 to 5000, a row and a seat of its hall", small, "hold 0 0 0 10",
            "I 0 0, I 0 1, I 0 2, A 1 5000", small + "sell 0 0 0 30\n");
        ranges("12: a held seat", small, "hold 0 1 2 10", "I 0 0, I 0 1, I 0 2, A 1 5000", small + "hold 0 1 2 10\n");
        ranges("12: not PLANNED", small, "hold 0 1 2 10", "I 0 0, I 0 1, I 0 2, A 1 5000", small + "pass 1200\n");
        run("12: if the show is not PLANNED", TWO + """
            show 0 0 1200
            show 0 1 1200
            show 0 0 1300
            cancel 2
            hold 2 0 0 5 ! S
            pass 1199
            hold 0 0 0 1 = 0
            pass 1
            hold 0 0 1 1 ! S
            hold 0 0 0 1 ! S
            hold 0 0 0 0 ! A
            hold 0 0 2 1 ! I
            breaks 1
            hold 1 0 0 1 ! S
            pass 30
            hold 0 0 0 1 ! S
            hold 3 0 0 0 ! I
            all 3 = 0
            """);
        run("12: the seat is not free, or is again", SHOWN + """
            hold 0 0 0 5 = 0
            hold 0 0 0 5 ! S
            letGo 0 = -1
            hold 0 0 0 5 = 1
            buy 1 30 = 0
            hold 0 0 0 5 ! S
            giveBack 0 = 100
            hold 0 0 0 5 = 2
            pass 5
            hold 0 0 0 5 = 3
            """);
        run("12: a free seat can be held when 400 tickets are sold", LEFT_0 + """
            hold 9 5 7 5 = 0
            seat 9 5 7 = 1000
            buy 0 30 ! S
            letGo 0 = -1
            """);
    }

    private static void promises13And14() {
        String held = "hall 1 2\nfilm 30 12 100\nkey 0 0 0 110000\nshow 0 0 1200\nhold 0 0 0 100\nhold 0 0 1 50\n";
        ranges("13: no such hold", held, "letGo 0", "I 0 1", null);
        run("13: if it has ended", held + """
            letGo 1 = -1
            letGo 1 ! S
            buy 1 30 ! S
            buy 1 121 ! A
            letGo 2 ! I
            letGo -1 ! I
            hold 0 0 1 10
            pass 9
            letGo 2 = -1
            letGo 2 ! S
            hold 0 0 1 10
            pass 10
            letGo 3 ! S
            buy 0 30 = 0
            letGo 0 ! S
            hold 0 0 1 10
            cancel 0 = 100
            letGo 4 ! S
            """);
        run("13: the ticket by which its seat goes to the line; NONE if it does not", held + """
            join 0 13 false = 0
            letGo 1 = 0
            seat 0 0 1 = 0
            ofTicket 0 3 = 13
            letGo 0 = -1
            seat 0 0 0 = -1
            """);
        run("13: the last ticket, then none", LEFT_1 + """
            giveBack 384
            giveBack 385
            hold 0 0 0 5 = 0
            hold 0 0 1 5 = 1
            join 0 50 false = 0
            join 0 51 false = 1
            letGo 1 = 399
            letGo 0 = -1
            seat 0 0 0 = -1
            ofShow 0 6 = 1
            letGo 0 ! S
            """);
        String heldForAll = "hall 1 2\nfilm 30 0 100\nkey 0 0 0 110000\nshow 0 0 1200\nhold 0 0 0 100\nhold 0 0 1 50\n";
        ranges("14: age 0 to 120", heldForAll, "buy 0 30", "I 0 1, A 0 120", heldForAll + "letGo 0\n");
        ranges("14: too young", heldForAll, "buy 0 11", "I 0 1, A 0 120", held);
        run("14: age is below that of the film", held + """
            buy 0 11 ! S
            buy 0 0 ! S
            buy 0 -1 ! A
            buy 2 -1 ! I
            buy 2 11 ! I
            buy 0 12 = 0
            ofTicket 0 3 = 12
            ofTicket 0 4 = 100
            buy 0 12 ! S
            buy 1 120 = 1
            buy 1 121 ! A
            """);
        run("14: a film from 18 on", """
            hall 1 1
            film 30 18 999
            key 0 0 0 110000
            show 0 0 1200
            hold 0 0 0 1
            buy 0 17 ! S
            buy 0 18 = 0
            """);
        run("14: or there are 400 tickets", LEFT_1 + """
            giveBack 384
            hold 0 0 0 5 = 0
            hold 9 5 7 5 = 1
            buy 0 30 = 399
            buy 1 30 ! S
            buy 1 -1 ! A
            buy 2 30 ! I
            seat 9 5 7 = 1001
            all 3 = 1
            """);
        run("14: its seat does not go to the line", held + """
            join 0 40 true = 0
            buy 0 30 = 0
            ofShow 0 6 = 1
            seat 0 0 0 = 0
            pass 50
            seat 0 0 1 = 1
            ofTicket 1 3 = 40
            pass 50
            seat 0 0 0 = 0
            """);
    }

    private static void promise15() {
        String small = "hall 2 3\nfilm 30 0 100\nkey 0 0 0 110000\nshow 0 0 1200\n";
        ranges("15: age 0 to 120, a row and a seat of its hall", small, "sell 0 0 0 30", "I 0 0, I 0 1, I 0 2, A 0 120",
            small + "sell 0 0 0 30\n");
        ranges("15: a held seat", small, "sell 0 1 2 30", "I 0 0, I 0 1, I 0 2, A 0 120", small + "hold 0 1 2 30\n");
        ranges("15: not PLANNED", small, "sell 0 1 2 30", "I 0 0, I 0 1, I 0 2, A 0 120", small + "cancel 0\n");
        run("15: if the show is not PLANNED", TWO + """
            show 0 0 1200
            show 0 1 1200
            pass 1199
            sell 0 0 0 30 = 0
            pass 1
            sell 0 0 1 30 ! S
            sell 0 0 1 121 ! A
            sell 0 0 2 121 ! I
            breaks 1
            sell 1 0 0 30 ! S
            pass 30
            sell 0 0 1 30 ! S
            sell 2 0 0 30 ! I
            """);
        run("15: the seat is not free, or is again", SHOWN + """
            sell 0 0 0 30 = 0
            sell 0 0 0 30 ! S
            sell 0 0 0 -1 ! A
            giveBack 0 = 100
            sell 0 0 0 30 = 1
            hold 0 0 1 5
            sell 0 0 1 30 ! S
            pass 4
            sell 0 0 1 30 ! S
            pass 1
            sell 0 0 1 30 = 2
            """);
        for (int age : new int[] {1, 12, 18}) {
            run("15: Somebody who is younger than the age of the film gets none", "hall 1 4\nfilm 30 " + age + " 100\n"
                + "key 0 0 0 110000\nshow 0 0 1200\nsell 0 0 0 " + (age - 1) + " ! S\nhold 0 0 0 5\nbuy 0 " + (age - 1)
                + " ! S\ngroup 0 2 " + (age - 1) + " ! S\nbuy 0 " + age + " = 0\nsell 0 0 1 " + age + " = 1\ngroup 0 2 "
                + age + " = 2\njoin 0 " + (age - 1) + " true ! S\njoin 0 " + age + " true = 0\n");
        }
        run("15: or there are 400 tickets", LEFT_1 + """
            sell 9 5 7 30 = 399
            giveBack 399 = 100
            sell 9 5 7 30 ! S
            sell 9 5 7 121 ! A
            sell 9 5 8 30 ! I
            sell 9 6 7 30 ! I
            sell 10 5 7 30 ! I
            all 2 = 400
            ofTicket 399 0 = 9
            ofTicket 400 0 ! I
            """);
    }

    private static void promise16() {
        String wide = "hall 2 8\nfilm 30 0 100\nkey 0 0 0 110000\nshow 0 0 1200\n";
        ranges("16: many 2 to 8, age 0 to 120", wide, "group 0 2 30", "I 0 0, A 2 8, A 0 120", wide + "pass 1200\n");
        ranges("16: no such seats", wide, "group 0 2 30", "I 0 0, A 2 8, A 0 120", wide + "2*group 0 8 30\n");
        for (int seats = 1; seats <= 8; seats++) {
            for (int many = 2; many <= 8; many++) {
                String start = "hall 1 " + seats + "\nfilm 30 0 100\nkey 0 0 0 110000\nshow 0 0 1200\n";
                if (many > seats) {
                    run("16: no row has so many", start + "group 0 " + many + " 30 ! S");
                } else {
                    int lowest = (seats - many) / 2;
                    run("16: twice the lowest seat, and their number, differ least; of several the lowest ones",
                        start + "group 0 " + many + " 30 = 0\nofTicket 0 2 = " + lowest + "\nofTicket " + (many - 1)
                        + " 2 = " + (lowest + many - 1) + "\nall 2 = " + many);
                }
            }
        }
        run("16: the nearest free ones, of two as near the lowest", wide + """
            group 0 2 30 = 0
            ofTicket 0 2 = 3
            group 0 2 30 = 2
            ofTicket 2 2 = 1
            group 0 2 30 = 4
            ofTicket 4 2 = 5
            group 0 2 30 = 6
            ofTicket 6 1 = 1
            ofTicket 6 2 = 3
            """);
        run("16: the nearest ones though others are lower", wide + """
            sell 0 0 2 30
            sell 0 0 3 30
            group 0 2 30 = 2
            ofTicket 2 2 = 4
            group 0 2 30 = 4
            ofTicket 4 2 = 0
            group 0 2 30 = 6
            ofTicket 6 2 = 6
            """);
        run("16: in the row with the lowest number in which there are so many", wide + """
            sell 0 0 2 30
            sell 0 0 5 30
            group 0 3 30 = 2
            ofTicket 2 1 = 1
            ofTicket 2 2 = 2
            group 0 2 30 = 5
            ofTicket 5 1 = 0
            ofTicket 5 2 = 3
            group 0 2 30 = 7
            ofTicket 7 1 = 0
            ofTicket 7 2 = 0
            group 0 2 30 = 9
            ofTicket 9 1 = 0
            ofTicket 9 2 = 6
            group 0 2 30 = 11
            ofTicket 11 1 = 1
            """);
        run("16: not side by side round a corner", """
            hall 2 2
            film 30 0 100
            key 0 0 0 110000
            show 0 0 1200
            sell 0 0 0 30
            sell 0 1 1 30
            group 0 2 30 ! S
            giveBack 1 = 100
            group 0 3 30 ! S
            group 0 2 30 = 2
            ofTicket 2 1 = 1
            group 0 2 30 ! S
            """);
        run("16: a held seat is not free, one whose hold ended is", SHOWN + """
            hold 0 0 1 5
            group 0 2 30 ! S
            pass 4
            group 0 2 30 ! S
            pass 1
            group 0 2 30 = 0
            group 0 2 30 ! S
            group 0 1 30 ! A
            group 0 9 30 ! A
            group 0 2 121 ! A
            group 1 1 121 ! I
            giveBack 1
            group 0 2 30 ! S
            """);
        run("16: if the show is not PLANNED", TWO + """
            show 0 0 1200
            show 0 1 1200
            show 0 0 1300
            cancel 2
            group 2 2 30 ! S
            pass 1199
            group 0 2 30 = 0
            pass 1
            group 1 2 30 ! S
            group 1 9 30 ! A
            breaks 1
            group 1 2 30 ! S
            """);
        run("16: OVER", SHOWN + """
            pass 1230
            group 0 2 30 ! S
            """);
        run("16: there would be more than 400 tickets", LEFT_2 + """
            group 9 3 30 ! S
            group 9 3 -1 ! A
            group 9 2 30 = 398
            all 2 = 400
            giveBack 398
            giveBack 399
            group 9 2 30 ! S
            """);
        run("16: one below 400", LEFT_1 + """
            group 9 2 30 ! S
            group 9 1 30 ! A
            group 10 2 30 ! I
            all 2 = 399
            sell 9 5 7 30 = 399
            """);
        run("16: eight of eight", LEFT_3 + """
            group 9 8 30 ! S
            group 9 4 30 ! S
            group 9 3 30 = 397
            """);
    }

    private static void promises17And18() {
        ranges("17: no such ticket", SOLD, "giveBack 0", "I 0 1", null);
        run("17: if its show is not PLANNED", TWO + """
            show 0 0 1200
            show 0 1 1200
            sell 0 0 0 30
            sell 0 0 1 30
            sell 1 0 0 30
            pass 1199
            giveBack 0 = 100
            pass 1
            giveBack 1 ! S
            giveBack 0 ! S
            breaks 1 = 100
            giveBack 2 ! S
            pass 30
            giveBack 1 ! S
            giveBack 3 ! I
            giveBack -1 ! I
            """);
        run("17: or it was given back", SOLD + """
            giveBack 1 = 100
            giveBack 1 ! S
            sell 0 0 1 30 = 2
            giveBack 1 ! S
            seat 0 0 1 = 2
            giveBack 2 = 100
            cancel 0 = 100
            giveBack 0 ! S
            giveBack 2 ! S
            """);
        run("17: a ticket for which nothing is paid is given back once", """
            hall 1 1
            film 30 0 1
            key 0 0 0 110000
            show 0 0 1
            sell 0 0 0 30 = 0
            ofTicket 0 4 = 0
            ofTicket 0 5 = 0
            giveBack 0 = 0
            ofTicket 0 5 = 1
            seat 0 0 0 = -1
            giveBack 0 ! S
            """);
        run("17: ticket 399", LEFT_0 + """
            giveBack 399 = 100
            giveBack 399 ! S
            giveBack 400 ! I
            """);
        ranges("18: age 0 to 120", SOLD, "join 0 30 true", "I 0 0, A 0 120", SHOWN + "sell 0 0 0 30\n");
        ranges("18: 40 are in the line", SOLD, "join 0 30 true", "I 0 0, A 0 120", SOLD + "40*join 0 30 false\n");
        run("18: some seat is free", SHOWN + """
            join 0 30 true ! S
            sell 0 0 0 30
            join 0 30 true ! S
            join 0 121 true ! A
            hold 0 0 1 5
            join 0 30 false = 0
            join 1 30 false ! I
            join -1 -1 false ! I
            """);
        run("18: all seats are held", SHOWN + """
            hold 0 0 0 5
            hold 0 0 1 5
            join 0 30 true = 0
            """);
        run("18: if the show is not PLANNED", SOLD + """
            pass 1199
            join 0 30 true = 0
            pass 1
            join 0 30 true ! S
            join 0 -1 true ! A
            pass 30
            join 0 30 true ! S
            """);
        run("18: BROKEN, CANCELLED", SOLD + """
            show 0 0 1300
            cancel 1
            join 1 30 true ! S
            pass 1200
            breaks 0 = 200
            join 0 30 true ! S
            """);
        run("18: or 40 are in the line", SOLD + """
            20*join 0 30 true
            18*join 0 30 false
            join 0 31 false = 38
            join 0 32 true = 20
            ofShow 0 6 = 40
            join 0 33 true ! S
            join 0 33 false ! S
            giveBack 0 = 100
            ofShow 0 6 = 39
            join 0 34 true = 20
            join 0 33 true ! S
            ofShow 0 6 = 40
            join 0 121 false ! A
            join 1 33 true ! I
            """);
        run("18: how many are ahead of them", SOLD + """
            39*join 0 30 false
            join 0 40 false = 39
            join 0 40 false ! S
            giveBack 1
            join 0 41 true = 0
            giveBack 0
            ofTicket 3 3 = 41
            join 0 42 false = 39
            """);
    }

    private static void promises19And20() {
        ranges("19: start above now, at most 100000", SMALL + "pass 100\n", "fits 0 0 500",
            "I 0 0, I 0 0, A 101 100000", null);
        ranges("20: from above now, at most 100000", SMALL + "pass 100\n", "first 0 0 500",
            "I 0 0, I 0 0, A 101 100000", null);
        run("19: a show of now is not asked for", SMALL + """
            fits 0 0 0 ! A
            fits 0 0 1 = 0
            fits 0 0 100000 = 0
            fits 0 0 100001 ! A
            fits 1 0 0 ! I
            fits 0 1 100001 ! I
            first 0 0 0 ! A
            first 0 0 1 = 1
            first 0 0 100000 = 100000
            first 0 0 100001 ! A
            first 1 0 0 ! I
            first 0 1 100001 ! I
            pass 5000
            fits 0 0 5000 ! A
            fits 0 0 5001 = 0
            first 0 0 5000 ! A
            first 0 0 5001 = 5001
            """);
        run("20: from one on to 10080 later", """
            hall 1 1
            film 30 0 1
            key 0 0 20000 20030
            first 0 0 9918 = -1
            first 0 0 9919 = -1
            first 0 0 9920 = 20000
            first 0 0 19999 = 20000
            first 0 0 20000 = 20000
            first 0 0 20001 = -1
            """);
        run("20: with both, at most 100000", """
            hall 1 1
            film 30 0 1
            key 0 0 100000 110000
            first 0 0 89919 = -1
            first 0 0 89920 = 100000
            first 0 0 99999 = 100000
            first 0 0 100000 = 100000
            """);
        run("20: not beyond 100000", SMALL + """
            show 0 0 99970
            first 0 0 99920 = 99920
            first 0 0 99921 = -1
            first 0 0 100000 = -1
            """);
        run("20: right at 100000", SMALL + """
            show 0 0 99950
            first 0 0 99901 = 100000
            """);
        run("20: behind a show in the hall, behind one in another", TWO + """
            spread 60
            show 0 0 1000
            first 0 0 950 = 950
            first 0 0 951 = 1050
            first 0 1 940 = 940
            first 0 1 941 = 1060
            show 0 1 1060
            first 0 0 951 = 1120
            cancel 1
            first 0 0 951 = 1050
            pass 1000
            first 0 0 1001 = 1050
            first 0 1 1001 = 1060
            pass 30
            first 0 0 1031 = 1031
            first 0 1 1031 = 1031
            """);
        run("20: a broken show is in nobody's way", TWO + """
            spread 60
            show 0 0 1000
            pass 1001
            first 0 0 1002 = 1050
            first 0 1 1002 = 1060
            breaks 0
            first 0 0 1002 = 1002
            first 0 1 1002 = 1002
            """);
        run("20: a key begins in between", """
            hall 1 1
            film 30 0 1
            key 0 0 100 149
            key 0 0 151 180
            key 0 0 152 182
            first 0 0 1 = 100
            first 0 0 119 = 119
            first 0 0 120 = 152
            first 0 0 153 = -1
            lamp 0 29 false
            first 0 0 1 = -1
            """);
        run("20: when there are 30 shows", shows(30) + """
            first 0 0 1 = 1501
            fits 0 0 1500 = 2
            fits 0 0 1501 = 0
            """);
    }

    private static void promises21To25() {
        ranges("21: age 0 to 120", SHOWN + "show 0 0 1300\n", "price 0 30", "I 0 1, A 0 120", null);
        run("21: for ages below 12", """
            hall 1 1
            film 30 18 100
            key 0 0 0 110000
            show 0 0 1200
            price 0 0 = 50
            price 0 11 = 50
            price 0 12 = 100
            price 0 120 = 100
            price 0 121 ! A
            price 0 -1 ! A
            price 1 121 ! I
            price -1 -1 ! I
            cancel 0
            price 0 11 = 50
            """);
        String small = """
            hall 2 3
            hall 1 1
            film 30 0 100
            key 0 0 0 110000
            key 0 1 0 110000
            show 0 0 1200
            show 0 1 1300
            sell 0 1 2 30
            hold 0 0 2 10
            sell 1 0 0 11
            """;
        ranges("22: a row and a seat of its hall", small, "seat 0 0 0", "I 0 1, I 0 1, I 0 2", null);
        run("22: the ticket, 1000 and the hold, NONE", small + """
            seat 0 0 0 = -1
            seat 0 0 2 = 1000
            seat 0 1 2 = 0
            seat 0 1 0 = -1
            seat 1 0 0 = 1
            seat 1 0 1 ! I
            seat 1 1 0 ! I
            seat 0 2 0 ! I
            seat 0 0 3 ! I
            seat 0 -1 3 ! I
            seat 0 1 -1 ! I
            seat 2 0 0 ! I
            pass 10
            seat 0 0 2 = -1
            pass 1190
            seat 0 1 2 = 0
            pass 30
            seat 0 1 2 = 0
            giveBack 1 = 50
            seat 1 0 0 = -1
            """);
        ranges("23: what 0 to 7", small, "ofShow 0 3", "I 0 1, I 0 7", null);
        ranges("24: what 0 to 5", small, "ofTicket 0 3", "I 0 1, I 0 5", null);
        ranges("25: what 0 to 3", small, "ofHall 0 3", "I 0 1, I 0 3", null);
        run("23: as told", small + """
            ofShow 0 0 = 0
            ofShow 0 1 = 0
            ofShow 0 2 = 1200
            ofShow 0 3 = 0
            ofShow 0 4 = 1
            ofShow 0 5 = 1
            ofShow 0 6 = 0
            ofShow 0 7 = 100
            ofShow 1 1 = 1
            ofShow 1 2 = 1300
            ofShow 1 7 = 50
            ofShow 1 8 ! I
            ofShow 2 8 ! I
            """);
        run("22 to 24: rows of one seat", """
            hall 6 1
            film 30 0 100
            key 0 0 0 110000
            show 0 0 1200
            sell 0 5 0 30 = 0
            sell 0 1 0 30 = 1
            hold 0 0 0 10 = 0
            ofTicket 0 1 = 5
            ofTicket 0 2 = 0
            ofTicket 1 1 = 1
            ofTicket 1 2 = 0
            seat 0 0 0 = 1000
            seat 0 1 0 = 1
            seat 0 2 0 = -1
            seat 0 5 0 = 0
            seat 0 5 1 ! I
            seat 0 6 0 ! I
            ofShow 0 4 = 2
            ofShow 0 5 = 1
            hold 0 4 0 10 = 1
            ofShow 0 5 = 2
            group 0 2 30 ! S
            """);
        run("23: all held, all sold", SHOWN + """
            ofShow 0 4 = 0
            ofShow 0 5 = 0
            hold 0 0 0 10
            ofShow 0 5 = 1
            hold 0 0 1 10
            ofShow 0 4 = 0
            ofShow 0 5 = 2
            buy 0 30
            buy 1 30
            ofShow 0 4 = 2
            ofShow 0 5 = 0
            """);
        run("22 and 24: the last seat of the greatest hall", """
            hall 6 8
            film 30 0 100
            key 0 0 0 110000
            show 0 0 1200
            sell 0 5 7 30 = 0
            sell 0 5 0 30 = 1
            sell 0 0 7 30 = 2
            ofTicket 0 1 = 5
            ofTicket 0 2 = 7
            ofTicket 1 1 = 5
            ofTicket 1 2 = 0
            ofTicket 2 1 = 0
            ofTicket 2 2 = 7
            seat 0 5 7 = 0
            seat 0 5 8 ! I
            seat 0 6 7 ! I
            """);
        run("24: as told", small + """
            ofTicket 0 0 = 0
            ofTicket 0 1 = 1
            ofTicket 0 2 = 2
            ofTicket 0 3 = 30
            ofTicket 0 4 = 100
            ofTicket 0 5 = 0
            ofTicket 1 0 = 1
            ofTicket 1 1 = 0
            ofTicket 1 2 = 0
            ofTicket 1 3 = 11
            ofTicket 1 4 = 50
            giveBack 1 = 50
            ofTicket 1 4 = 0
            ofTicket 1 5 = 1
            ofTicket 1 3 = 11
            ofTicket 2 6 ! I
            """);
        run("25: the show that is RUNNING there, NONE", small + """
            ofHall 0 0 = 6
            ofHall 1 0 = 1
            ofHall 0 3 = -1
            pass 1200
            ofHall 0 3 = 0
            ofHall 1 3 = -1
            pass 100
            ofHall 0 3 = -1
            ofHall 1 3 = 1
            ofHall 0 1 = 30
            ofHall 1 1 = 0
            breaks 1 = 50
            ofHall 1 3 = -1
            """);
    }

    private static void promises26To29() {
        for (String name : new String[] {"takings", "takingsAnew", "share", "mustStay"}) {
            ranges("26 to 29: week 0 to 9", SOLD + "film 30 0 1\n", name + " 0 0", "I 0 1, A 0 9", null);
        }
        String paid200 = SOLD;
        int[][] shares = {
            // first, step, floor, nut, due of 200
            {100, 0, 0, 200, 0}, {100, 0, 0, 199, 1}, {99, 0, 0, 199, 0}, {100, 0, 0, 201, 0}, {100, 0, 0, 0, 200},
            {0, 0, 0, 0, 0}, {0, 0, 100, 0, 200}, {50, 0, 25, 100, 50}, {50, 0, 25, 101, 50}, {50, 0, 25, 98, 51},
            {50, 0, 25, 99, 50}, {100, 0, 10, 100000, 20}, {33, 0, 0, 101, 32}, {1, 0, 0, 101, 0}, {1, 0, 0, 100, 1},
            {30, 100, 0, 0, 60}};
        for (int[] s : shares) {
            run("28: the part of what is above the nut, 0 at least, or the floor, the greater one", paid200
                + "terms 0 " + s[0] + " " + s[1] + " " + s[2] + " " + s[3] + " 0\nshare 0 0 = " + s[4]);
        }
        int[][] steps = {
            // first, step, floor, due in week 3 of 200
            {50, 10, 20, 40}, {50, 10, 19, 40}, {50, 10, 21, 42}, {50, 0, 0, 100}, {50, 16, 0, 4}, {50, 17, 0, 0},
            {100, 100, 0, 0}, {100, 100, 100, 200}, {3, 1, 0, 0}, {4, 1, 0, 2}};
        for (int[] s : steps) {
            run("28: the first less k times the step, but the floor at least", """
                hall 1 2
                film 30 0 100
                key 0 0 0 110000
                show 0 0 1200
                show 0 0 31320
                sell 1 0 0 30
                sell 1 0 1 30
                takings 0 3 = 200
                """
                + "terms 0 " + s[0] + " " + s[1] + " " + s[2] + " 0 0\nshare 0 3 = " + s[3] + "\nshare 0 0 = 0\n");
        }
        run("28: 0 without an opening", SMALL + """
            terms 0 100 0 100 0 0
            share 0 0 = 0
            share 0 9 = 0
            """);
        run("28: by the terms at first", SOLD + """
            share 0 0 = 100
            giveBack 0
            sell 0 0 0 11
            share 0 0 = 75
            show 0 0 10100
            sell 1 0 0 30
            takings 0 1 = 75
            share 0 1 = 37
            """);
        run("29: if the takings are at least keep", SOLD + """
            mustStay 0 0 = true
            mustStay 0 1 = true
            mustStay 0 9 = true
            terms 0 0 0 0 0 200
            mustStay 0 0 = true
            mustStay 0 1 = false
            terms 0 0 0 0 0 201
            mustStay 0 0 = false
            terms 0 0 0 0 0 199
            mustStay 0 0 = true
            terms 0 0 0 0 0 1
            mustStay 0 0 = true
            mustStay 0 1 = false
            terms 0 0 0 0 0 0
            cancel 0 = 200
            mustStay 0 0 = false
            """);
    }

    private static void promises30And31() {
        String four = "hall 1 5\nfilm 30 0 100\nkey 0 0 0 110000\nshow 0 0 1200\nsell 0 0 0 30\nsell 0 0 1 11\n"
            + "sell 0 0 2 30\nsell 0 0 3 11\n";
        ranges("30: a ticket", four, "audit 0 3", "I 0 3, I 0 3", null);
        run("30: one with the same number, or a greater one", four + """
            audit 0 0 = 100
            audit 1 1 = 50
            audit 3 3 = 50
            audit 0 1 = 150
            audit 0 3 = 300
            audit 2 3 = 150
            audit 1 0 ! A
            audit 3 0 ! A
            audit 3 2 ! A
            audit 4 0 ! I
            audit 4 4 ! I
            audit 3 4 ! I
            audit 0 -1 ! I
            audit -1 0 ! I
            audit -1 -2 ! I
            audit 5 4 ! I
            audit 2147483647 -2147483648 ! I
            giveBack 1 = 50
            audit 1 1 = 0
            audit 0 3 = 250
            """);
        run("30: no ticket", SHOWN + """
            audit 0 0 ! I
            audit 0 1 ! I
            audit 1 0 ! I
            """);
        run("30: all 400", LEFT_0 + """
            audit 0 399 = 40000
            audit 399 399 = 100
            audit 399 400 ! I
            audit 400 399 ! I
            audit 399 398 ! A
            all 4 = 40000
            """);
        ranges("31: what 0 to 4", four, "all 0", "I 0 4", null);
        run("31: as told", four + """
            hold 0 0 4 10
            all 0 = 0
            all 1 = 1
            all 2 = 4
            all 3 = 1
            all 4 = 300
            pass 9
            all 3 = 1
            pass 1
            all 0 = 10
            all 3 = 0
            giveBack 0
            all 2 = 4
            all 4 = 200
            cancel 0 = 200
            all 1 = 1
            all 2 = 4
            all 4 = 0
            """);
    }

    public static void main(String[] args) {
        time();
        days();
        weeks();
        openings();
        lamps();
        states();
        keysAndHalls();
        spreads();
        holdsEnd();
        lines();
        minutes();
        asksChangeNothing();
        fullHouse();
        promise1();
        promises2To7();
        promise8();
        promises9And10();
        promise11();
        promise12();
        promises13And14();
        promise15();
        promise16();
        promises17And18();
        promises19And20();
        promises21To25();
        promises26To29();
        promises30And31();
        System.out.println(wrong == 0 ? checks + " checks: all as due" : wrong + " are not as due");
        if (wrong != 0) {
            System.exit(1);
        }
    }
}
