import java.util.ArrayList;
import java.util.Arrays;
import java.util.List;
import java.util.regex.Matcher;
import java.util.regex.Pattern;

/** A second reading of the document: tokens by regular expressions, the weather minute by minute. */
final class Reference {
    private static final String DIRECTION = "(VRB|[0-2]\\d0|3[0-6]0)";
    private static final Pattern WIND = Pattern.compile(DIRECTION + "(\\d\\d)(?:G(\\d\\d))?KT");
    private static final Pattern WEATHER = Pattern.compile("(-|\\+|VC)?(?:(TS)|(MI|BC|PR|DR|BL|SH|TS|FZ)?"
            + "((?:DZ|RA|SN|SG|PL|GR|GS|BR|FG|FU|VA|DU|SA|HZ|PO|SQ|FC|SS|DS){1,3}))");
    private static final Pattern LAYER = Pattern.compile("(FEW|SCT|BKN|OVC)(\\d{3})(CB|TCU)?");
    private static final Pattern DEGREES = Pattern.compile("(M?)(\\d\\d)/(M?)(\\d\\d)");
    private static final Pattern PERIOD = Pattern.compile("(\\d\\d)(\\d\\d)/(\\d\\d)(\\d\\d)");
    private static final List<String> FIRSTS = Arrays.asList("MI BC PR DR BL SH TS FZ".split(" "));
    private static final List<String> OTHERS =
            Arrays.asList("DZ RA SN SG PL GR GS BR FG FU VA DU SA HZ PO SQ FC SS DS".split(" "));
    private static final List<String> AMOUNTS = Arrays.asList("FEW SCT BKN OVC".split(" "));

    static final class Part {
        int kind;
        int chance;
        int from = -1;
        int to = -1;
        int[] wind;
        Integer visibility;
        List<Integer> weather;
        List<Integer> clouds;

        boolean tells(int what) {
            Object[] told = {wind, visibility, weather, clouds};
            return told[what] != null;
        }
    }

    private final List<String> tokens = new ArrayList<>();
    private int at = 0;
    private final int month;
    private final int days;
    int kind;
    String station;
    int issue;
    int[] degrees;
    int pressure;
    final List<Part> parts = new ArrayList<>();
    /** 0, or the place of the first token that can't stand. */
    final int place;

    Reference(String text, int days) {
        this.days = days;
        this.month = days * 1440;
        List<Integer> places = new ArrayList<>();
        Matcher token = Pattern.compile("[^ ]+").matcher(text);
        while (token.find()) {
            tokens.add(token.group());
            places.add(token.start() + 1);
        }
        places.add(text.length() + 1);
        boolean stands = readAll() && at == tokens.size();
        place = stands ? 0 : places.get(at);
    }

    String printed() {
        return String.join(" ", tokens);
    }

    private String token() {
        return at < tokens.size() ? tokens.get(at) : "";
    }

    private boolean goOn() {
        at++;
        return true;
    }

    private boolean readAll() {
        if (!token().matches("METAR|TAF")) {
            return false;
        }
        kind = token().equals("METAR") ? 1 : 2;
        goOn();
        if (!token().matches("[A-Z]{4}")) {
            return false;
        }
        station = token();
        goOn();
        if (!token().matches("\\d{6}Z") || time(token().substring(0, 6)) < 0) {
            return false;
        }
        issue = time(token().substring(0, 6));
        goOn();
        Part first = new Part();
        parts.add(first);
        return kind == 1 ? whole(first) && readDegrees() && readPressure() : readForecast(first);
    }

    private boolean readDegrees() {
        Matcher m = DEGREES.matcher(token());
        if (!m.matches()) {
            return false;
        }
        int one = Integer.parseInt(m.group(2));
        int two = Integer.parseInt(m.group(4));
        degrees = new int[] {m.group(1).isEmpty() ? one : -one, m.group(3).isEmpty() ? two : -two};
        return goOn();
    }

    private boolean readPressure() {
        if (!token().matches("Q\\d{4}")) {
            return false;
        }
        pressure = Integer.parseInt(token().substring(1));
        return goOn();
    }

    private boolean readForecast(Part first) {
        Matcher m = PERIOD.matcher(token());
        if (!m.matches() || !period(first, m, Integer.parseInt(m.group(1)) < issue / 1440 + 1)
                || first.to - first.from > 1800) {
            return false;
        }
        goOn();
        if (!whole(first)) {
            return false;
        }
        while (at < tokens.size()) {
            if (parts.size() == 9 || !change(first)) {
                return false;
            }
        }
        return true;
    }

    private boolean change(Part first) {
        Part part = new Part();
        String name = token();
        if (name.matches("FM\\d{6}")) {
            int time = time(name.substring(2));
            int real = time < first.from ? time + month : time;
            boolean behind = parts.stream().allMatch(p -> p.kind != 1 || p.from < real);
            if (time < 0 || real < first.from || real >= first.to || !behind) {
                return false;
            }
            part.kind = 1;
            part.from = real;
            part.to = first.to;
            parts.add(part);
            goOn();
            return whole(part);
        }
        if (!name.matches("BECMG|TEMPO|PROB30|PROB40")) {
            return false;
        }
        goOn();
        part.kind = name.equals("BECMG") ? 2 : name.equals("TEMPO") ? 3 : 4;
        if (part.kind == 4) {
            part.chance = Integer.parseInt(name.substring(4));
            if (token().equals("TEMPO")) {
                part.kind = 5;
                goOn();
            }
        }
        parts.add(part);
        return changePeriod(first, part) && some(part);
    }

    private boolean changePeriod(Part first, Part part) {
        Matcher m = PERIOD.matcher(token());
        if (!m.matches()) {
            return false;
        }
        int begin = hour(m.group(1), m.group(2), 23);
        return period(part, m, begin < first.from) && part.from >= first.from && part.to <= first.to && goOn();
    }

    private boolean period(Part part, Matcher m, boolean nextMonth) {
        int begin = hour(m.group(1), m.group(2), 23);
        int end = hour(m.group(3), m.group(4), 24);
        if (begin < 0 || end < 0) {
            return false;
        }
        part.from = nextMonth ? begin + month : begin;
        part.to = end;
        if (nextMonth || end <= part.from) {
            part.to += month;
        }
        return part.to > part.from;
    }

    private int hour(String dayDigits, String hourDigits, int last) {
        int day = Integer.parseInt(dayDigits);
        int hour = Integer.parseInt(hourDigits);
        return day < 1 || day > days || hour > last ? -1 : (day - 1) * 1440 + hour * 60;
    }

    private int time(String digits) {
        int hour = hour(digits.substring(0, 2), digits.substring(2, 4), 23);
        int minute = Integer.parseInt(digits.substring(4));
        return hour < 0 || minute > 59 ? -1 : hour + minute;
    }

    private boolean whole(Part part) {
        if (!wind(part)) {
            return false;
        }
        if (cavok(part)) {
            return true;
        }
        if (!visibility(part)) {
            return false;
        }
        weather(part);
        if (part.weather == null) {
            part.weather = new ArrayList<>();
        }
        clouds(part);
        return part.clouds != null;
    }

    private boolean some(Part part) {
        wind(part);
        if (!cavok(part)) {
            visibility(part);
            if (token().equals("NSW")) {
                part.weather = new ArrayList<>();
                goOn();
            } else {
                weather(part);
            }
            clouds(part);
        }
        return part.tells(0) || part.tells(1) || part.tells(2) || part.tells(3);
    }

    private boolean wind(Part part) {
        Matcher m = WIND.matcher(token());
        if (!m.matches()) {
            return false;
        }
        int speed = Integer.parseInt(m.group(2));
        int gusts = m.group(3) == null ? 0 : Integer.parseInt(m.group(3));
        if (m.group(3) != null && gusts <= speed) {
            return false;
        }
        int direction = m.group(1).equals("VRB") ? -2 : Integer.parseInt(m.group(1));
        part.wind = new int[] {direction, speed, gusts};
        return goOn();
    }

    private boolean cavok(Part part) {
        if (!token().equals("CAVOK")) {
            return false;
        }
        part.visibility = 10000;
        part.weather = new ArrayList<>();
        part.clouds = new ArrayList<>();
        return goOn();
    }

    private boolean visibility(Part part) {
        if (!token().matches("\\d{4}")) {
            return false;
        }
        part.visibility = Integer.parseInt(token());
        return goOn();
    }

    private void weather(Part part) {
        Matcher m = WEATHER.matcher(token());
        while (m.matches() && (part.weather == null || part.weather.size() < 3)) {
            if (part.weather == null) {
                part.weather = new ArrayList<>();
            }
            part.weather.add(weatherNumber(m));
            goOn();
            m = WEATHER.matcher(token());
        }
    }

    private static int weatherNumber(Matcher m) {
        int number = m.group(1) == null ? 0 : Arrays.asList("-", "+", "VC").indexOf(m.group(1)) + 1;
        String first = m.group(2) != null ? m.group(2) : m.group(3);
        number += first == null ? 0 : 4 * (FIRSTS.indexOf(first) + 1);
        String others = m.group(4) == null ? "" : m.group(4);
        int[] units = {64, 2048, 65536};
        for (int i = 0; i < others.length() / 2; i++) {
            number += units[i] * (OTHERS.indexOf(others.substring(2 * i, 2 * i + 2)) + 1);
        }
        return number;
    }

    private void clouds(Part part) {
        if (token().equals("NSC")) {
            part.clouds = new ArrayList<>();
            goOn();
            return;
        }
        if (token().matches("VV\\d{3}")) {
            part.clouds = new ArrayList<>();
            part.clouds.add(5 + 8 * Integer.parseInt(token().substring(2)));
            goOn();
            return;
        }
        int before = 0;
        Matcher m = LAYER.matcher(token());
        while (m.matches() && Integer.parseInt(m.group(2)) >= before
                && (part.clouds == null || part.clouds.size() < 4)) {
            before = Integer.parseInt(m.group(2));
            int tail = m.group(3) == null ? 0 : m.group(3).equals("CB") ? 1 : 2;
            if (part.clouds == null) {
                part.clouds = new ArrayList<>();
            }
            part.clouds.add(AMOUNTS.indexOf(m.group(1)) + 1 + 8 * before + 8192 * tail);
            goOn();
            m = LAYER.matcher(token());
        }
    }

    boolean covers(int minute) {
        return kind == 2 && minute >= parts.get(0).from && minute < parts.get(0).to;
    }

    int from(int minute, int what) {
        int teller = 0;
        for (int g = 1; g < parts.size(); g++) {
            Part part = parts.get(g);
            int since = part.kind == 1 ? part.from : part.kind == 2 ? part.to : Integer.MAX_VALUE;
            if (minute >= since && part.tells(what)) {
                teller = g;
            }
        }
        return teller;
    }

    List<Integer> active(int minute) {
        List<Integer> groups = new ArrayList<>();
        for (int g = 1; g < parts.size(); g++) {
            Part part = parts.get(g);
            if (part.kind > 2 && part.from <= minute && minute < part.to) {
                groups.add(g);
            }
        }
        return groups;
    }

    int least(int minute) {
        int least = parts.get(from(minute, 1)).visibility;
        for (int g : active(minute)) {
            Integer visibility = parts.get(g).visibility;
            least = visibility == null ? least : Math.min(least, visibility);
        }
        return least;
    }

    int ceiling(int minute, int way) {
        List<Integer> clouds = new ArrayList<>(parts.get(from(minute, 3)).clouds);
        for (int g : active(minute)) {
            if (way == 1 && parts.get(g).clouds != null) {
                clouds.addAll(parts.get(g).clouds);
            }
        }
        return clouds.stream().filter(c -> c % 8 >= 3).mapToInt(c -> c % 8192 / 8).min().orElse(-2);
    }

    int next(int minute) {
        for (int later = minute + 1; covers(later); later++) {
            if (!sight(later).equals(sight(minute))) {
                return later;
            }
        }
        return -1;
    }

    private String sight(int minute) {
        return from(minute, 0) + " " + from(minute, 1) + " " + from(minute, 2) + " " + from(minute, 3) + " "
                + active(minute);
    }
}
