import java.util.ArrayList;
import java.util.Arrays;
import java.util.List;

/** Compares the class with the reference over many made-up texts, right ones and spoilt ones. */
public final class ReferenceTest {
    private static final int ROUNDS = 6000;
    private static final Due due = new Due();
    /** A row of numbers that is the same in each run. */
    private static long seed = 20261115;

    private static int stood;
    private static int forecasts;

    public static void main(String[] args) {
        for (int round = 0; round < ROUNDS; round++) {
            oneObject();
        }
        System.out.println(stood + " texts stood, " + forecasts + " of them forecasts");
        due.is("enough texts stood", stood > ROUNDS / 2 && forecasts > ROUNDS / 4 ? 1 : 0, 1);
        due.end("ReferenceTest");
    }

    private static void oneObject() {
        Sky x = new Sky();
        Reference kept = null;
        for (int i = 0; i < 2; i++) {
            int days = 28 + upTo(4);
            List<String> tokens = upTo(3) == 0 ? report(days) : forecast(days);
            if (upTo(2) == 0) {
                spoil(tokens);
            }
            String text = joined(tokens);
            if (text.length() > 700) {
                continue;
            }
            Reference read = new Reference(text, days);
            due.is("read(" + days + ") of '" + text + "'", x.readText(text, days), read.place);
            kept = read.place == 0 ? read : kept;
        }
        if (kept != null) {
            stood++;
            forecasts += kept.kind == 2 ? 1 : 0;
            compare(x, kept);
        }
    }

    private static void ask(String call, Reference kept, long got, long want) {
        due.is(got == want ? call : call + " of '" + kept.printed() + "'", got, want);
    }

    private static void compare(Sky x, Reference kept) {
        ask("print()", kept, x.print(), kept.printed().length());
        ask("check()", kept, x.check(), 1);
        int i = upTo(kept.printed().length());
        ask("character(i)", kept, x.character(i), kept.printed().charAt(i));
        compareTold(x, kept);
        int minutes = 4;
        for (int m = 0; m < minutes && kept.kind == 2; m++) {
            compareMinute(x, kept, someMinute(kept));
        }
        for (int g = 0; g < kept.parts.size(); g++) {
            compareGroup(x, kept, g);
        }
        ask("group(count, 0)", kept, x.group(kept.parts.size(), 0), -1);
    }

    private static void compareTold(Sky x, Reference kept) {
        boolean report = kept.kind == 1;
        int[] wants = {kept.kind, kept.parts.size(), kept.issue, report ? kept.degrees[0] : -1001,
            report ? kept.degrees[1] : -1001, report ? kept.pressure : -1001, kept.station.charAt(0),
            kept.station.charAt(1), kept.station.charAt(2), kept.station.charAt(3), -1001};
        for (int what = 0; what < wants.length; what++) {
            ask("told(" + what + ")", kept, x.told(what), wants[what]);
        }
    }

    private static void compareGroup(Sky x, Reference kept, int g) {
        Reference.Part part = kept.parts.get(g);
        int[] wind = part.wind == null ? new int[] {-1, -1, -1} : part.wind;
        int[] wants = {part.kind, part.chance, part.from, part.to, wind[0], wind[1], wind[2],
            part.visibility == null ? -1 : part.visibility, part.weather == null ? -1 : part.weather.size(),
            part.clouds == null ? -1 : part.clouds.size(), -1};
        for (int what = 0; what < wants.length; what++) {
            ask("group(" + g + ", " + what + ")", kept, x.group(g, what), wants[what]);
        }
        for (int k = 0; k < 5; k++) {
            ask("weather(" + g + ", " + k + ")", kept, x.weather(g, k), of(part.weather, k));
            ask("cloud(" + g + ", " + k + ")", kept, x.cloud(g, k), of(part.clouds, k));
        }
    }

    private static int of(List<Integer> numbers, int k) {
        return numbers == null || k >= numbers.size() ? -1 : numbers.get(k);
    }

    private static int someMinute(Reference kept) {
        Reference.Part part = kept.parts.get(upTo(kept.parts.size()));
        return (upTo(2) == 0 ? part.from : part.to) + upTo(3) - 1;
    }

    private static void compareMinute(Sky x, Reference kept, int minute) {
        boolean in = kept.covers(minute);
        String at = "(" + minute + ", ";
        for (int what = 0; what < 4; what++) {
            ask("from" + at + what + ")", kept, x.from(minute, what), in ? kept.from(minute, what) : -1);
        }
        ask("active" + at + ")", kept, x.active(minute), in ? kept.active(minute).size() : -1);
        for (int i = 0; i < 4; i++) {
            ask("activeOne" + at + i + ")", kept, x.activeOne(minute, i), in ? of(kept.active(minute), i) : -1);
        }
        ask("least" + at + ")", kept, x.least(minute), in ? kept.least(minute) : -1);
        ask("ceiling" + at + "0)", kept, x.ceiling(minute, 0), in ? kept.ceiling(minute, 0) : -1);
        ask("ceiling" + at + "1)", kept, x.ceiling(minute, 1), in ? kept.ceiling(minute, 1) : -1);
        ask("next" + at + ")", kept, x.next(minute), in ? kept.next(minute) : -1);
    }

    private static int upTo(int bound) {
        seed = seed * 6364136223846793005L + 1442695040888963407L;
        return (int) ((seed >>> 33) % bound);
    }

    private static String pick(String choices) {
        String[] words = choices.split(" ");
        return words[upTo(words.length)];
    }

    private static String dayHour(int minute, int days) {
        return String.format("%02d%02d", minute / 1440 % days + 1, minute % 1440 / 60);
    }

    /** The end of a period, now and then told as an hour 24. */
    private static String endOf(int minute, int days) {
        if (minute % 1440 == 0 && upTo(2) == 0) {
            return String.format("%02d24", (minute - 1) / 1440 % days + 1);
        }
        return dayHour(minute, days);
    }

    private static List<String> report(int days) {
        List<String> tokens = head("METAR", upTo(days * 1440), days);
        addWhole(tokens);
        tokens.add(pick("12/03 M00/M01 00/M00 M12/M13 99/00"));
        tokens.add(pick("Q0998 Q1013 Q0000 Q9999"));
        return tokens;
    }

    private static List<String> head(String name, int minute, int days) {
        String issue = String.format("%s%02dZ", dayHour(minute, days), minute % 60);
        return new ArrayList<>(Arrays.asList(name, pick("EDDM LFPG TSRA NSWX"), issue));
    }

    private static List<String> forecast(int days) {
        int issue = upTo(2) == 0 ? upTo(days * 1440) : (days - 2) * 1440 + upTo(2880);
        List<String> tokens = head("TAF", issue, days);
        int begin = (issue / 60 + upTo(8)) * 60;
        int hours = 1 + upTo(30);
        int end = begin + hours * 60;
        tokens.add(dayHour(begin, days) + "/" + endOf(end, days));
        addWhole(tokens);
        int changes = upTo(9);
        int latest = begin;
        for (int i = 0; i < changes; i++) {
            int kind = upTo(6);
            if (kind == 0 && latest < end - 60) {
                latest += upTo(Math.max((end - latest) / 2, 1));
                tokens.add(String.format("FM%s%02d", dayHour(latest, days), latest % 60));
                latest += 1;
                addWhole(tokens);
            } else {
                addChange(tokens, begin, hours, days);
            }
        }
        return tokens;
    }

    private static void addChange(List<String> tokens, int begin, int hours, int days) {
        String name = pick("BECMG BECMG TEMPO PROB30 PROB40 PROB30/TEMPO PROB40/TEMPO");
        tokens.addAll(Arrays.asList(name.split("/")));
        int from = upTo(hours);
        int to = from + 1 + upTo(hours - from);
        tokens.add(dayHour(begin + from * 60, days) + "/" + endOf(begin + to * 60, days));
        int before = tokens.size();
        if (upTo(3) == 0) {
            tokens.add(wind());
        }
        if (upTo(5) == 0) {
            tokens.add("CAVOK");
            return;
        }
        if (upTo(2) == 0) {
            tokens.add(pick("9999 0000 0800 5000 1200"));
        }
        if (upTo(3) == 0) {
            tokens.add("NSW");
        } else if (upTo(2) == 0) {
            addWeather(tokens, 1 + upTo(3));
        }
        if (upTo(3) == 0 || tokens.size() == before) {
            addClouds(tokens);
        }
    }

    private static String wind() {
        return pick("VRB 000 010 240 360") + pick("00 05 12 30") + pick("KT KT G31KT G99KT");
    }

    private static void addWhole(List<String> tokens) {
        tokens.add(wind());
        if (upTo(4) == 0) {
            tokens.add("CAVOK");
            return;
        }
        tokens.add(pick("9999 0000 0800 5000 1200"));
        addWeather(tokens, upTo(4));
        addClouds(tokens);
    }

    private static void addWeather(List<String> tokens, int count) {
        for (int i = 0; i < count; i++) {
            String sign = pick("/ - + VC").replace("/", "");
            if (upTo(8) == 0) {
                tokens.add(sign + "TS");
                continue;
            }
            StringBuilder weather = new StringBuilder(sign);
            weather.append(pick("/ / MI BC PR DR BL SH TS FZ").replace("/", ""));
            int others = 1 + upTo(3);
            for (int k = 0; k < others; k++) {
                weather.append(pick("DZ RA SN SG PL GR GS BR FG FU VA DU SA HZ PO SQ FC SS DS"));
            }
            tokens.add(weather.toString());
        }
    }

    private static void addClouds(List<String> tokens) {
        int kind = upTo(6);
        if (kind == 0) {
            tokens.add("NSC");
        } else if (kind == 1) {
            tokens.add(String.format("VV%03d", upTo(12)));
        } else {
            int height = upTo(20);
            int count = 1 + upTo(4);
            for (int i = 0; i < count; i++) {
                tokens.add(String.format("%s%03d", pick("FEW SCT BKN OVC"), height)
                        + pick("/ / CB TCU").replace("/", ""));
                height += upTo(10) * upTo(30);
                height = Math.min(height, 999);
            }
        }
    }

    private static void spoil(List<String> tokens) {
        int at = upTo(tokens.size());
        String token = tokens.get(at);
        int i = upTo(token.length());
        switch (upTo(7)) {
            case 0:
                tokens.remove(at);
                break;
            case 1:
                tokens.add(at, tokens.get(upTo(tokens.size())));
                break;
            case 2:
                tokens.set(at, tokens.get(upTo(tokens.size())));
                break;
            case 3:
                tokens.set(at, token.substring(0, i) + (char) (33 + upTo(94)) + token.substring(i + 1));
                break;
            case 4:
                tokens.set(at, token.substring(0, i) + (char) ('0' + upTo(10)) + token.substring(i + 1));
                break;
            case 5:
                tokens.set(at, token + pick("CB TCU RA Z 0 KT / TEMPOTEMPOTEMPO"));
                break;
            default:
                tokens.subList(at, tokens.size()).clear();
                break;
        }
    }

    private static String joined(List<String> tokens) {
        StringBuilder text = new StringBuilder();
        boolean wide = upTo(4) == 0;
        for (String token : tokens) {
            text.append(text.length() > 0 || wide ? " " : "").append(wide && upTo(3) == 0 ? "  " : "").append(token);
        }
        return text.append(wide ? " " : "").toString();
    }
}
