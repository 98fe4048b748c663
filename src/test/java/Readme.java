import java.io.IOException;
import java.nio.file.Files;
import java.nio.file.Path;
import java.util.ArrayList;
import java.util.List;
import java.util.regex.Matcher;
import java.util.regex.Pattern;

/** What README.md shows: its fenced blocks and its tables. */
final class Readme {
    private static final Pattern FENCED = Pattern.compile("(?ms)^```(\\w+)\n(.*?)^```$");
    private static final Pattern RULE = Pattern.compile("\\|(-+\\|)+");

    /** A fenced block: its language and its lines. */
    record Block(String language, String content) {
    }

    final String text;

    Readme() throws IOException {
        text = Files.readString(Path.of("README.md"));
    }

    List<Block> blocks() {
        List<Block> blocks = new ArrayList<>();
        Matcher fenced = FENCED.matcher(text);
        while (fenced.find()) {
            blocks.add(new Block(fenced.group(1), fenced.group(2)));
        }
        return blocks;
    }

    /** The command that runs the tests: the one line of the one block for the shell. */
    String command() {
        List<String> commands = new ArrayList<>();
        for (Block block : blocks()) {
            if (block.language().equals("sh")) {
                commands.add(block.content().trim());
            }
        }
        Trial.due("blocks with a command in README.md", commands.size(), 1);
        return commands.isEmpty() ? "false" : commands.get(0);
    }

    /** The rows below the table's head, their cells as they are written. */
    List<String[]> table(String... head) {
        List<String[]> rows = new ArrayList<>();
        String title = "| " + String.join(" | ", head) + " |";
        boolean within = false;
        for (String line : text.split("\n")) {
            within = line.equals(title) || (within && line.startsWith("|"));
            if (within && !line.equals(title) && !RULE.matcher(line).matches()) {
                rows.add(cells(line));
                Trial.due("cells of " + line, cells(line).length, head.length);
            }
        }
        Trial.due("rows of the table " + title + " in README.md", rows.size() > 1, true);
        return rows;
    }

    private static String[] cells(String line) {
        String[] cells = line.substring(1, line.length() - 1).split("\\|");
        for (int i = 0; i < cells.length; i++) {
            cells[i] = cells[i].trim();
        }
        return cells;
    }

    /** A cell's text without the marks that show it as code. */
    static String plain(String cell) {
        boolean marked = cell.length() > 1 && cell.startsWith("`") && cell.endsWith("`");
        return marked ? cell.substring(1, cell.length() - 1) : cell;
    }
}
