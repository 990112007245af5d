import com.sun.source.tree.BinaryTree;
import com.sun.source.tree.ClassTree;
import com.sun.source.tree.CompilationUnitTree;
import com.sun.source.tree.IdentifierTree;
import com.sun.source.tree.ImportTree;
import com.sun.source.tree.LiteralTree;
import com.sun.source.tree.MemberSelectTree;
import com.sun.source.tree.MethodInvocationTree;
import com.sun.source.tree.MethodTree;
import com.sun.source.tree.Tree;
import com.sun.source.tree.VariableTree;
import com.sun.source.util.JavacTask;
import com.sun.source.util.SourcePositions;
import com.sun.source.util.TreePathScanner;
import com.sun.source.util.Trees;
import java.io.File;
import java.util.HashSet;
import java.util.List;
import java.util.Set;
import java.util.TreeSet;
import javax.lang.model.element.Modifier;
import javax.tools.JavaCompiler;
import javax.tools.StandardJavaFileManager;
import javax.tools.ToolProvider;

/** What of LANGUAGE.md can be seen in the source: rules 1 to 6, 8, 10 and 11. */
public final class RulesTest {
    private static final String FACE = "AnyTwoBells bell set strike strikes most mix feed law lay line sum of tells gap bears hear which"
        + " alone strokes kept odds least greedy alarm night begins rest undo redo body act trace keep row put element shift taken count"
        + " BAD NOT FULL STATE VOID";
    private static final Set<String> LIBRARY = Set.of("System.arraycopy", "Arrays.copyOf", "Arrays.copyOfRange", "Arrays.fill", "List.of");
    /** Of these any static function or constant over int and long, but none that throws. */
    private static final Set<String> NUMBERS = Set.of("Integer", "Long", "Math");
    private static final Set<String> IMPORTS = Set.of("java.util.ArrayList", "java.util.Arrays", "java.util.Iterator", "java.util.List");
    private static final Set<Tree.Kind> FORBIDDEN = Set.of(Tree.Kind.THROW, Tree.Kind.TRY, Tree.Kind.CATCH, Tree.Kind.SYNCHRONIZED,
        Tree.Kind.ASSERT, Tree.Kind.LAMBDA_EXPRESSION, Tree.Kind.MEMBER_REFERENCE, Tree.Kind.ANNOTATION, Tree.Kind.PACKAGE,
        Tree.Kind.BINDING_PATTERN, Tree.Kind.ERRONEOUS);
    private static int wrong = 0;

    private static void fault(String what) {
        wrong++;
        System.out.println(what);
    }

    public static void main(String[] args) throws Exception {
        JavaCompiler compiler = ToolProvider.getSystemJavaCompiler();
        StandardJavaFileManager files = compiler.getStandardFileManager(null, null, null);
        File source = new File("src/main/java/AnyTwoBells.java");
        JavacTask task = (JavacTask) compiler.getTask(null, files, null, List.of("-proc:none"), null, files.getJavaFileObjects(source));
        CompilationUnitTree unit = task.parse().iterator().next();
        Reader reader = new Reader(unit, Trees.instance(task).getSourcePositions());
        reader.scan(unit, null);
        reader.finish();
        for (char c : unit.getSourceFile().getCharContent(true).toString().toCharArray()) {
            if (c > 126 || c < 32 && c != '\n') {
                fault("a sign that is not plain: " + (int) c);
            }
        }
        System.out.println(reader.classes + " classes, " + reader.methods + " methods");
        System.out.println((wrong == 0 ? 1 : 0) + " passed, " + wrong + " failed");
        if (wrong != 0) {
            System.exit(1);
        }
    }

    private static final class Reader extends TreePathScanner<Void, Void> {
        private final CompilationUnitTree unit;
        private final SourcePositions positions;
        private final Set<String> face = new TreeSet<>();
        private final Set<String> own = new HashSet<>(Set.of("AnyTwoBells"));
        private int classes = 0, methods = 0;

        Reader(CompilationUnitTree unit, SourcePositions positions) {
            this.unit = unit;
            this.positions = positions;
        }

        private long line(long position) {
            return unit.getLineMap().getLineNumber(position);
        }

        private String at(Tree tree) {
            return "line " + line(positions.getStartPosition(unit, tree)) + ": ";
        }

        @Override
        public Void scan(Tree tree, Void v) {
            if (tree != null && FORBIDDEN.contains(tree.getKind())) {
                fault(at(tree) + tree.getKind());
            }
            return super.scan(tree, v);
        }

        @Override
        public Void visitImport(ImportTree tree, Void v) {
            if (tree.isStatic() || !IMPORTS.contains(tree.getQualifiedIdentifier().toString())) {
                fault(at(tree) + tree.getQualifiedIdentifier() + " is imported");
            }
            return null;
        }

        @Override
        public Void visitClass(ClassTree tree, Void v) {
            classes++;
            own.add(tree.getSimpleName().toString());
            Set<Modifier> flags = tree.getModifiers().getFlags();
            boolean outer = getCurrentPath().getParentPath().getLeaf() == unit;
            if (outer ? !flags.equals(Set.of(Modifier.PUBLIC, Modifier.FINAL)) : !flags.contains(Modifier.STATIC)) {
                fault(at(tree) + tree.getSimpleName() + " is " + flags);
            }
            int fields = 0;
            for (Tree member : tree.getMembers()) {
                if (member instanceof VariableTree) {
                    Set<Modifier> its = ((VariableTree) member).getModifiers().getFlags();
                    fields += its.contains(Modifier.STATIC) ? 0 : 1;
                    if (its.contains(Modifier.STATIC) && !its.contains(Modifier.FINAL)) {
                        fault(at(member) + "a static field that is not final");
                    }
                    memberOf(outer, its, ((VariableTree) member).getName().toString(), member);
                } else if (member instanceof MethodTree) {
                    MethodTree method = (MethodTree) member;
                    String name = method.getName().toString();
                    memberOf(outer, method.getModifiers().getFlags(), name.equals("<init>") ? "AnyTwoBells" : name, member);
                } else if (!(member instanceof ClassTree)) {
                    fault(at(member) + "an initialiser");
                }
            }
            if (fields > 20) {
                fault(at(tree) + fields + " fields");
            }
            return super.visitClass(tree, v);
        }

        private void memberOf(boolean outer, Set<Modifier> flags, String name, Tree member) {
            if (outer && flags.contains(Modifier.PUBLIC)) {
                face.add(name);
            } else if (!flags.contains(Modifier.PRIVATE)) {
                fault(at(member) + name + " is not private");
            } else if (member instanceof MethodTree && !name.equals("AnyTwoBells") && Set.of(FACE.split(" ")).contains(name)) {
                fault(at(member) + name + " bears the name of a public one");
            }
        }

        @Override
        public Void visitMethod(MethodTree tree, Void v) {
            methods++;
            long lines = line(positions.getEndPosition(unit, tree)) - line(positions.getStartPosition(unit, tree)) + 1;
            if (lines > 60) {
                fault(at(tree) + tree.getName() + " has " + lines + " lines");
            }
            if (tree.getParameters().size() > 7) {
                fault(at(tree) + tree.getName() + " takes " + tree.getParameters().size());
            }
            boolean still = !tree.getModifiers().getFlags().contains(Modifier.STATIC);
            new TreePathScanner<Void, Void>() {
                @Override
                public Void visitMethodInvocation(MethodInvocationTree call, Void w) {
                    Tree called = call.getMethodSelect();
                    if (still && called instanceof IdentifierTree && ((IdentifierTree) called).getName().equals(tree.getName())) {
                        fault(at(call) + tree.getName() + " calls itself and is not static");
                    }
                    return super.visitMethodInvocation(call, w);
                }
            }.scan(getCurrentPath(), null);
            return super.visitMethod(tree, v);
        }

        @Override
        public Void visitMemberSelect(MemberSelectTree tree, Void v) {
            String from = tree.getExpression().toString();
            boolean number = NUMBERS.contains(from) && !tree.getIdentifier().toString().matches("parse.*|valueOf|decode|.*Exact");
            boolean library = number || LIBRARY.contains(from + "." + tree.getIdentifier());
            if (Character.isUpperCase(from.charAt(0)) && !own.contains(from) && !library && !isNestedOfUnit(from)) {
                fault(at(tree) + tree);
            }
            return super.visitMemberSelect(tree, v);
        }

        private boolean isNestedOfUnit(String name) {
            for (Tree type : unit.getTypeDecls()) {
                for (Tree member : ((ClassTree) type).getMembers()) {
                    if (member instanceof ClassTree && ((ClassTree) member).getSimpleName().contentEquals(name)) {
                        return true;
                    }
                }
            }
            return false;
        }

        @Override
        public Void visitBinary(BinaryTree tree, Void v) {
            for (Tree side : List.of(tree.getLeftOperand(), tree.getRightOperand())) {
                if (side instanceof LiteralTree && ((LiteralTree) side).getValue() instanceof String) {
                    fault(at(tree) + "texts joined by a sign");
                }
            }
            return super.visitBinary(tree, v);
        }

        private void finish() {
            if (unit.getTypeDecls().size() != 1) {
                fault(unit.getTypeDecls().size() + " classes beside one another");
            }
            if (classes > 12) {
                fault(classes + " classes");
            }
            if (!face.equals(new TreeSet<>(List.of(FACE.split(" "))))) {
                fault("the face: " + face);
            }
        }
    }
}
