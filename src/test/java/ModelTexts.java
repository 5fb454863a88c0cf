import java.util.ArrayList;
import java.util.List;
import java.util.regex.Matcher;
import java.util.regex.Pattern;

/** The model's texts: cut into tokens by a pattern, then taken by the grammar of the document. */
final class ModelTexts {
    private static final Pattern TOKEN = Pattern.compile("[a-z]+|[0-9]+|[;<>=]|[^ \n]", Pattern.DOTALL);

    private final List<String> tokens = new ArrayList<>();
    private final List<Integer> places = new ArrayList<>();
    private int at = 0;
    private int steps = 0;

    ModelTexts(String text) {
        Matcher m = TOKEN.matcher(text);
        while (m.find()) {
            tokens.add(m.group());
            places.add(m.start());
        }
        tokens.add("");
        places.add(text.length());
    }

    private String here() {
        String token = tokens.get(at);
        if (!token.isEmpty() && !token.matches("[a-z]+|[0-9]{1,4}|[;<>=]")) {
            fault(1);
        }
        return token;
    }

    private void fault(int kind) {
        throw new Model.Fault(kind, places.get(at));
    }

    private void need(String word) {
        if (!here().equals(word)) {
            fault(2);
        }
        at++;
    }

    private int number(int least, int most) {
        if (!here().matches("[0-9]+")) {
            fault(2);
        }
        int number = Integer.parseInt(here());
        if (number < least || number > most) {
            fault(4);
        }
        at++;
        return number;
    }

    private String name() {
        if (!here().matches("[a-z]{1,8}") || Model.RESERVED.contains(here())) {
            fault(2);
        }
        return here();
    }

    private int finder(Model.Beach b) {
        String name = name();
        for (int i = 0; i < b.finders.size(); i++) {
            if (b.finders.get(i).name.equals(name)) {
                at++;
                return i;
            }
        }
        fault(3);
        return -1;
    }

    private int find(Model.Beach b) {
        String name = name();
        for (int i = 0; i < b.finds.size(); i++) {
            if (b.finds.get(i).name.equals(name)) {
                at++;
                return i;
            }
        }
        fault(3);
        return -1;
    }

    private String newName(Model.Beach b) {
        String name = name();
        if (b.finders.stream().anyMatch(f -> f.name.equals(name))
                || b.finds.stream().anyMatch(f -> f.name.equals(name))) {
            fault(3);
        }
        at++;
        return name;
    }

    Model.Beach beach() {
        Model.Beach b = new Model.Beach();
        need("beach");
        b.cells = number(2, 40);
        need("tide");
        b.tide = number(1, 240);
        if (here().equals("moon")) {
            at++;
            b.moon = number(0, 60);
        }
        need(";");
        int pebbles = 0;
        boolean duel = false;
        while (!here().isEmpty()) {
            String part = here();
            if (part.equals("finder")) {
                finderPart(b);
            } else if (part.equals("find")) {
                findPart(b);
            } else if (part.equals("pebble")) {
                pebblePart(b, pebbles++);
            } else if (part.equals("duel")) {
                duelPart(b, duel);
                duel = true;
            } else {
                fault(2);
            }
            need(";");
        }
        return b;
    }

    private void finderPart(Model.Beach b) {
        if (b.finders.size() == 6) {
            fault(6);
        }
        at++;
        Model.Finder f = new Model.Finder();
        f.name = newName(b);
        need("at");
        f.cell = number(0, b.cells - 1);
        need("pace");
        f.pace = number(1, 9);
        need("pebbles");
        f.pebbles = number(0, 20);
        b.finders.add(f);
    }

    private void findPart(Model.Beach b) {
        if (b.finds.size() == 8) {
            fault(6);
        }
        at++;
        Model.Find f = new Model.Find();
        f.name = newName(b);
        need("at");
        f.cell = number(0, b.cells - 1);
        need("worth");
        f.worth = number(0, 999);
        b.finds.add(f);
    }

    private void pebblePart(Model.Beach b, int ahead) {
        if (ahead == 30) {
            fault(6);
        }
        at++;
        need("of");
        int owner = finder(b);
        need("on");
        int find = find(b);
        need("at");
        b.finds.get(find).on.add(new Model.Pebble(owner, number(0, b.tide)));
        b.finds.get(find).on.sort((x, y) -> Integer.compare(x.minute, y.minute));
    }

    private void duelPart(Model.Beach b, boolean told) {
        if (told) {
            fault(5);
        }
        at++;
        b.duel = List.of("none", "first", "last", "share").indexOf(here());
        if (b.duel < 0) {
            fault(2);
        }
        at++;
    }

    Model.Step days(Model.Beach b) {
        Model.Step days = new Model.Step();
        stepsInto(days, b, 0);
        if (!here().isEmpty()) {
            fault(2);
        }
        return days;
    }

    private void stepsInto(Model.Step parent, Model.Beach b, int depth) {
        while (!here().isEmpty() && !here().equals("end")) {
            parent.parts.add(step(b, depth));
            need(";");
        }
    }

    private Model.Step step(Model.Beach b, int depth) {
        Model.Step s = new Model.Step();
        s.kind = here();
        if (!List.of("go", "set", "wait", "lift", "gull", "wave", "tide", "when", "loop", "stop").contains(s.kind)) {
            fault(2);
        }
        if (steps == 30) {
            fault(6);
        }
        boolean block = s.kind.equals("when") || s.kind.equals("loop");
        if (block && depth == 3) {
            fault(7);
        }
        steps++;
        at++;
        simple(s, b);
        if (block) {
            need(";");
            stepsInto(s, b, depth + 1);
            need("end");
        }
        return s;
    }

    private void simple(Model.Step s, Model.Beach b) {
        switch (s.kind) {
            case "go":
                s.numbers[0] = finder(b);
                need("to");
                s.numbers[1] = number(0, b.cells - 1);
                break;
            case "wait":
                s.numbers[0] = finder(b);
                s.numbers[1] = number(1, 240);
                break;
            case "set":
            case "lift":
                onFind(s, b);
                break;
            case "gull":
                s.numbers[0] = number(0, 16);
                break;
            case "wave":
                s.numbers[0] = number(0, 40);
                break;
            case "loop":
                s.numbers[0] = number(1, 99);
                break;
            case "when":
                test(s, b);
                break;
            default:
        }
    }

    private void onFind(Model.Step s, Model.Beach b) {
        s.numbers[0] = finder(b);
        need("on");
        s.numbers[1] = find(b);
    }

    private void test(Model.Step s, Model.Beach b) {
        s.kind = here();
        if (!List.of("leads", "last", "free").contains(s.kind)) {
            fault(2);
        }
        at++;
        if (s.kind.equals("last")) {
            onFind(s, b);
        } else if (s.kind.equals("free")) {
            s.numbers[1] = find(b);
        } else {
            s.numbers[0] = finder(b);
            s.kind = here();
            if (!List.of("<", ">", "=").contains(s.kind)) {
                fault(2);
            }
            at++;
            s.numbers[1] = number(0, 9999);
        }
    }
}
