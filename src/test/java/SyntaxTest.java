import com.sun.source.tree.AnnotationTree;
import com.sun.source.tree.BinaryTree;
import com.sun.source.tree.ClassTree;
import com.sun.source.tree.CompilationUnitTree;
import com.sun.source.tree.CompoundAssignmentTree;
import com.sun.source.tree.MethodInvocationTree;
import com.sun.source.tree.MethodTree;
import com.sun.source.tree.NewArrayTree;
import com.sun.source.tree.NewClassTree;
import com.sun.source.tree.Tree;
import com.sun.source.tree.Tree.Kind;
import com.sun.source.tree.VariableTree;
import com.sun.source.util.JavacTask;
import com.sun.source.util.TreePathScanner;
import com.sun.source.util.Trees;
import java.nio.file.Path;
import java.util.EnumSet;
import java.util.List;
import java.util.Set;
import javax.lang.model.element.Element;
import javax.lang.model.element.ElementKind;
import javax.lang.model.element.ExecutableElement;
import javax.lang.model.element.Modifier;
import javax.lang.model.element.TypeElement;
import javax.lang.model.type.ArrayType;
import javax.lang.model.type.TypeKind;
import javax.lang.model.type.TypeMirror;
import javax.tools.JavaCompiler;
import javax.tools.StandardJavaFileManager;
import javax.tools.ToolProvider;

/** The source as javac reads it, against LANGUAGE.md: what it is made of, its types, and what of the library it calls. */
public final class SyntaxTest {
    private static final Path SOURCE = Path.of("src/main/java/NobodyFirst.java");
    private static final Set<Kind> MASKS = EnumSet.of(Kind.AND, Kind.OR, Kind.XOR, Kind.AND_ASSIGNMENT,
        Kind.OR_ASSIGNMENT, Kind.XOR_ASSIGNMENT);
    private static final Set<Kind> EQUALITIES = EnumSet.of(Kind.EQUAL_TO, Kind.NOT_EQUAL_TO);
    private static final Set<Kind> RULED_OUT = EnumSet.of(Kind.THROW, Kind.TRY, Kind.CATCH, Kind.SYNCHRONIZED, Kind.ASSERT,
        Kind.LAMBDA_EXPRESSION, Kind.MEMBER_REFERENCE, Kind.SWITCH_EXPRESSION, Kind.YIELD, Kind.BINDING_PATTERN,
        Kind.ANNOTATION, Kind.ANNOTATION_TYPE, Kind.UNION_TYPE, Kind.INTERSECTION_TYPE, Kind.MODULE, Kind.PACKAGE, Kind.ERRONEOUS);
    private static final Set<String> LIBRARY = Set.of("String.length", "String.charAt", "String.isEmpty", "String.equals",
        "String.substring", "String.toCharArray", "Math.max", "Math.min", "Math.abs", "Integer.bitCount", "Long.bitCount",
        "System.arraycopy", "Arrays.copyOf", "Arrays.copyOfRange", "Arrays.fill");

    public static void main(String[] args) throws Exception {
        JavaCompiler javac = ToolProvider.getSystemJavaCompiler();
        try (StandardJavaFileManager files = javac.getStandardFileManager(null, null, null)) {
            JavacTask task = (JavacTask) javac.getTask(null, files, null, List.of("--release", "17", "-proc:none"), null,
                files.getJavaFileObjects(SOURCE));
            Iterable<? extends CompilationUnitTree> units = task.parse();
            task.analyze();
            Look look = new Look(Trees.instance(task));
            for (CompilationUnitTree unit : units) {
                look.scan(unit, null);
            }
            Due.is("parts looked at: " + look.parts, look.parts > 3000 ? 1 : 0, 1);
            Due.is("calls of the library looked at: " + look.called, look.called > 20 ? 1 : 0, 1);
        }
        Due.end();
    }

    private static final class Look extends TreePathScanner<Void, Void> {
        private final Trees trees;
        int parts;
        int called;

        Look(Trees itsTrees) {
            trees = itsTrees;
        }

        private void rule(Tree at, String words, boolean holds) {
            CompilationUnitTree unit = getCurrentPath().getCompilationUnit();
            long place = trees.getSourcePositions().getStartPosition(unit, at);
            Due.is("line " + unit.getLineMap().getLineNumber(Math.max(0, place)) + ": " + words, holds ? 1 : 0, 1);
        }

        private TypeMirror typeOf(Tree t) {
            return trees.getTypeMirror(new com.sun.source.util.TreePath(getCurrentPath(), t));
        }

        private boolean isBoolean(Tree t) {
            return typeOf(t).getKind() == TypeKind.BOOLEAN;
        }

        private boolean isText(Tree t) {
            return typeOf(t).toString().equals("java.lang.String");
        }

        @Override public Void scan(Tree t, Void nothing) {
            if (t != null) {
                parts++;
                if (RULED_OUT.contains(t.getKind())) {
                    Due.is("the source has a part that is ruled out, " + t.getKind() + ": " + t, 1, 0);
                }
            }
            return super.scan(t, nothing);
        }

        @Override public Void visitBinary(BinaryTree t, Void nothing) {
            Tree a = t.getLeftOperand();
            Tree b = t.getRightOperand();
            if (MASKS.contains(t.getKind())) {
                rule(t, "a mask is of numbers", !isBoolean(a) && !isBoolean(b));
            }
            if (t.getKind() == Kind.PLUS || EQUALITIES.contains(t.getKind())) {
                rule(t, "texts are neither joined by + nor compared by ==", !isText(a) && !isText(b));
            }
            return super.visitBinary(t, nothing);
        }

        @Override public Void visitCompoundAssignment(CompoundAssignmentTree t, Void nothing) {
            rule(t, "a mask is of numbers", !MASKS.contains(t.getKind()) || !isBoolean(t.getVariable()));
            rule(t, "texts are not joined by +=", !isText(t.getVariable()));
            return super.visitCompoundAssignment(t, nothing);
        }

        @Override public Void visitMethodInvocation(MethodInvocationTree t, Void nothing) {
            Element method = trees.getElement(getCurrentPath());
            TypeElement owner = (TypeElement) method.getEnclosingElement();
            if (owner.getQualifiedName().toString().startsWith("java.")) {
                called++;
                String name = owner.getSimpleName() + "." + method.getSimpleName();
                boolean made = method.getKind() == ElementKind.CONSTRUCTOR && name.equals("Object.<init>");
                rule(t, name + " stands in the list", made || LIBRARY.contains(name));
            }
            return super.visitMethodInvocation(t, nothing);
        }

        @Override public Void visitNewClass(NewClassTree t, Void nothing) {
            TypeElement made = (TypeElement) ((ExecutableElement) trees.getElement(getCurrentPath())).getEnclosingElement();
            rule(t, "an object of a class of its own", made.toString().startsWith("NobodyFirst"));
            rule(t, "no class without a name", t.getClassBody() == null);
            return super.visitNewClass(t, nothing);
        }

        @Override public Void visitNewArray(NewArrayTree t, Void nothing) {
            TypeMirror type = typeOf(t);
            boolean ofArrays = type.getKind() == TypeKind.ARRAY
                && ((ArrayType) type).getComponentType().getKind() == TypeKind.ARRAY;
            rule(t, "a row of one dimension", !ofArrays);
            return super.visitNewArray(t, nothing);
        }

        @Override public Void visitClass(ClassTree t, Void nothing) {
            Element e = trees.getElement(getCurrentPath());
            Set<Modifier> has = e.getModifiers();
            boolean outer = e.getEnclosingElement().getKind() == ElementKind.PACKAGE;
            rule(t, "classes inside are static and not public", outer
                || has.contains(Modifier.STATIC) && !has.contains(Modifier.PUBLIC) && !has.contains(Modifier.PROTECTED));
            long own = e.getEnclosedElements().stream()
                .filter(f -> f.getKind() == ElementKind.FIELD && !f.getModifiers().contains(Modifier.STATIC)).count();
            rule(t, "some twenty fields", own <= 20);
            return super.visitClass(t, nothing);
        }

        @Override public Void visitVariable(VariableTree t, Void nothing) {
            Element e = trees.getElement(getCurrentPath());
            if (e.getKind() == ElementKind.FIELD && e.getModifiers().contains(Modifier.STATIC)) {
                String type = e.asType().toString();
                boolean written = t.getInitializer() != null && (t.getInitializer().getKind() == Kind.NEW_ARRAY
                    && ((NewArrayTree) t.getInitializer()).getInitializers() != null);
                rule(t, "static is final", e.getModifiers().contains(Modifier.FINAL));
                rule(t, "static is a constant or a row written out", type.endsWith("[]") ? written
                    : Set.of("int", "long", "boolean", "char", "java.lang.String").contains(type));
            }
            return super.visitVariable(t, nothing);
        }

        @Override public Void visitMethod(MethodTree t, Void nothing) {
            rule(t, "at most seven parameters", t.getParameters().size() <= 7);
            String name = t.getName().toString();
            rule(t, "none of its own " + name, !Set.of("equals", "hashCode", "toString", "finalize").contains(name));
            rule(t, "no exceptions told", t.getThrows().isEmpty());
            return super.visitMethod(t, nothing);
        }

        @Override public Void visitAnnotation(AnnotationTree t, Void nothing) {
            rule(t, "no annotations", false);
            return super.visitAnnotation(t, nothing);
        }
    }
}
